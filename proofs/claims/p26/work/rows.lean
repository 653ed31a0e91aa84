section
/-! doubles that are whole numbers (first of all parts: the library's laws of doubles are wanted from here on) -/
theorem dq_nn {a : UInt64} (h : FP.Core.dIsNaN a = false) : decide (a &&& 0x7fffffffffffffff ≤ 0x7ff0000000000000) = true := by
  have e := (FP.Core.ne_nan a).mp ((FP.Core.notNaN_iff a).mp h)
  refine decide_eq_true ?_
  rw [UInt64.le_iff_toNat_le, FP.Core.mask_toNat]
  exact e
theorem dq_i2d (x : Int32) : decide (FP.i2d x &&& 0x7fffffffffffffff ≤ 0x7ff0000000000000) = true := dq_nn (FP.Core.DFin.notNaN (FP.Core.i2d_fin x))
theorem dq_nz {x : Int32} (h : ¬ x = 0) : ¬ FP.Core.DZero (FP.i2d x) := by
  have z : (0 : Int32).toInt = 0 := by decide
  have := (FP.Core.i2d_big (v := x) (fun e => h (Int32.toInt_inj.mp (e.trans z.symm)))).1
  intro q
  have q2 : (FP.Core.i2d x).toNat % 2 ^ 63 = 0 := (FP.Core.zero_bits2 (FP.i2d x)).mp q
  omega
theorem dq_0 : FP.dconst0 = FP.i2d (nI 0) := by decide +kernel
theorem dq_add {S k : Nat} (hS : S ≤ 100000) (hk : k ≤ 13000) : FP.dadd (FP.i2d (nI S)) (FP.i2d (nI k)) = FP.i2d (nI (S + k)) := by
  have e1 : (nI S).toInt = (S : Int) := nI_toInt (by omega)
  have e2 : (nI k).toInt = (k : Int) := nI_toInt (by omega)
  have e3 : (nI (S + k)).toInt = ((S + k : Nat) : Int) := nI_toInt (by omega)
  by_cases hz : k = 0
  · subst hz
    rw [← dq_0, Nat.add_zero]
    refine FP.Core.dadd_zero ((FP.Core.notNaN_iff _).mp (FP.Core.DFin.notNaN (FP.Core.i2d_fin _))) (fun q => ?_)
    by_cases h0 : S = 0
    · subst h0
      revert q
      rw [← dq_0]
      decide +kernel
    · refine dq_nz (x := nI S) (fun e => ?_) ?_
      · rw [e] at e1
        have z : (0 : Int32).toInt = 0 := by decide
        omega
      · refine (FP.Core.zero_bits2 (FP.i2d (nI S))).mpr ?_
        rw [show FP.i2d (nI S) = _ from q]
        decide +kernel
  · refine FP.Core.dint_unique (i := ((S + k : Nat) : Int)) (by omega) ?_ ?_
    · have := FP.Core.dadd_int (FP.Core.i2d_int (nI S)) (FP.Core.i2d_int (nI k)) (by rw [e1, e2]; omega)
      rw [e1, e2] at this
      have e4 : ((S + k : Nat) : Int) = (S : Int) + (k : Int) := by omega
      rw [e4]
      exact this
    · rw [← e3]
      exact FP.Core.i2d_int _
theorem dq_div (x : Int32) {y : Int32} (hy : ¬ y = 0) : decide (FP.ddiv (FP.i2d x) (FP.i2d y) &&& 0x7fffffffffffffff ≤ 0x7ff0000000000000) = true := dq_nn (FP.Core.ddiv_out (FP.Core.DFin.notNaN (FP.Core.i2d_fin _)) (FP.Core.i2d_fin _) (dq_nz hy))
end
section
-- ===== PART A: goes FIRST, ahead of the names: the tables' words, and 'selects' of the private methods out of them =====
/-- a private method of a class that the tables say can be made, by its rows of tables_1 -/
def lw_okq (q : MethodName × Nat) : Prop := (q.1.cls ≠ "java/lang/invoke/MethodHandle" ∧ q.1.cls ≠ "java/lang/invoke/VarHandle") ∧ Cond.instantiable q.1.cls q.2 ∈ tables_1 ∧ Cond.privateMethod q.1 ∈ tables_1 ∧ Cond.instanceMethod q.1 ∈ tables_1
theorem lw_p0 : lw_okq (⟨"java/lang/Throwable", "fillInStackTrace", "(I)Ljava/lang/Throwable;"⟩, 6) := ⟨⟨by decide +kernel, by decide +kernel⟩, List.mem_of_getElem? (i := 301) (by decide +kernel), List.mem_of_getElem? (i := 299) (by decide +kernel), List.mem_of_getElem? (i := 300) (by decide +kernel)⟩
theorem lw_p1 : lw_okq (⟨"StandTugs", "save", "()V"⟩, 5) := ⟨⟨by decide +kernel, by decide +kernel⟩, List.mem_of_getElem? (i := 17) (by decide +kernel), List.mem_of_getElem? (i := 347) (by decide +kernel), List.mem_of_getElem? (i := 348) (by decide +kernel)⟩
theorem lw_p2 : lw_okq (⟨"StandTugs", "dropOldest", "()V"⟩, 5) := ⟨⟨by decide +kernel, by decide +kernel⟩, List.mem_of_getElem? (i := 17) (by decide +kernel), List.mem_of_getElem? (i := 351) (by decide +kernel), List.mem_of_getElem? (i := 352) (by decide +kernel)⟩
theorem lw_p3 : lw_okq (⟨"StandTugs$Field", "workTugs", "()V"⟩, 10) := ⟨⟨by decide +kernel, by decide +kernel⟩, List.mem_of_getElem? (i := 25) (by decide +kernel), List.mem_of_getElem? (i := 386) (by decide +kernel), List.mem_of_getElem? (i := 387) (by decide +kernel)⟩
theorem lw_p4 : lw_okq (⟨"StandTugs$Field", "finish", "(I)V"⟩, 10) := ⟨⟨by decide +kernel, by decide +kernel⟩, List.mem_of_getElem? (i := 25) (by decide +kernel), List.mem_of_getElem? (i := 390) (by decide +kernel), List.mem_of_getElem? (i := 391) (by decide +kernel)⟩
theorem lw_p5 : lw_okq (⟨"StandTugs$Field", "receive", "()V"⟩, 10) := ⟨⟨by decide +kernel, by decide +kernel⟩, List.mem_of_getElem? (i := 25) (by decide +kernel), List.mem_of_getElem? (i := 398) (by decide +kernel), List.mem_of_getElem? (i := 399) (by decide +kernel)⟩
theorem lw_p6 : lw_okq (⟨"StandTugs$Field", "freeStandFor", "(I)I"⟩, 10) := ⟨⟨by decide +kernel, by decide +kernel⟩, List.mem_of_getElem? (i := 25) (by decide +kernel), List.mem_of_getElem? (i := 402) (by decide +kernel), List.mem_of_getElem? (i := 403) (by decide +kernel)⟩
theorem lw_p7 : lw_okq (⟨"StandTugs$Field", "pushBack", "()V"⟩, 10) := ⟨⟨by decide +kernel, by decide +kernel⟩, List.mem_of_getElem? (i := 25) (by decide +kernel), List.mem_of_getElem? (i := 410) (by decide +kernel), List.mem_of_getElem? (i := 411) (by decide +kernel)⟩
theorem lw_p8 : lw_okq (⟨"StandTugs$Field", "nextToLeave", "(I)I"⟩, 10) := ⟨⟨by decide +kernel, by decide +kernel⟩, List.mem_of_getElem? (i := 25) (by decide +kernel), List.mem_of_getElem? (i := 414) (by decide +kernel), List.mem_of_getElem? (i := 415) (by decide +kernel)⟩
theorem lw_p9 : lw_okq (⟨"StandTugs$Field", "turn", "(I)I"⟩, 10) := ⟨⟨by decide +kernel, by decide +kernel⟩, List.mem_of_getElem? (i := 25) (by decide +kernel), List.mem_of_getElem? (i := 422) (by decide +kernel), List.mem_of_getElem? (i := 423) (by decide +kernel)⟩
theorem lw_p10 : lw_okq (⟨"StandTugs$Field", "isCurfew", "()Z"⟩, 10) := ⟨⟨by decide +kernel, by decide +kernel⟩, List.mem_of_getElem? (i := 25) (by decide +kernel), List.mem_of_getElem? (i := 430) (by decide +kernel), List.mem_of_getElem? (i := 431) (by decide +kernel)⟩
theorem lw_p11 : lw_okq (⟨"StandTugs$Field", "isPushedFrom", "(I)Z"⟩, 10) := ⟨⟨by decide +kernel, by decide +kernel⟩, List.mem_of_getElem? (i := 25) (by decide +kernel), List.mem_of_getElem? (i := 434) (by decide +kernel), List.mem_of_getElem? (i := 435) (by decide +kernel)⟩
theorem lw_p12 : lw_okq (⟨"StandTugs$Field", "freeTugFor", "(I)I"⟩, 10) := ⟨⟨by decide +kernel, by decide +kernel⟩, List.mem_of_getElem? (i := 25) (by decide +kernel), List.mem_of_getElem? (i := 438) (by decide +kernel), List.mem_of_getElem? (i := 439) (by decide +kernel)⟩
theorem lw_p13 : lw_okq (⟨"StandTugs$Field", "beginPush", "(I)V"⟩, 10) := ⟨⟨by decide +kernel, by decide +kernel⟩, List.mem_of_getElem? (i := 25) (by decide +kernel), List.mem_of_getElem? (i := 442) (by decide +kernel), List.mem_of_getElem? (i := 443) (by decide +kernel)⟩
theorem lw_p14 : lw_okq (⟨"StandTugs$Field", "tow", "()V"⟩, 10) := ⟨⟨by decide +kernel, by decide +kernel⟩, List.mem_of_getElem? (i := 25) (by decide +kernel), List.mem_of_getElem? (i := 450) (by decide +kernel), List.mem_of_getElem? (i := 451) (by decide +kernel)⟩
theorem lw_p15 : lw_okq (⟨"StandTugs$Field", "quietMinutes", "()I"⟩, 10) := ⟨⟨by decide +kernel, by decide +kernel⟩, List.mem_of_getElem? (i := 25) (by decide +kernel), List.mem_of_getElem? (i := 454) (by decide +kernel), List.mem_of_getElem? (i := 455) (by decide +kernel)⟩
def lw_privs_1 : List (MethodName × Nat) := [(⟨"java/lang/Throwable", "fillInStackTrace", "(I)Ljava/lang/Throwable;"⟩, 6), (⟨"StandTugs", "save", "()V"⟩, 5), (⟨"StandTugs", "dropOldest", "()V"⟩, 5), (⟨"StandTugs$Field", "workTugs", "()V"⟩, 10), (⟨"StandTugs$Field", "finish", "(I)V"⟩, 10), (⟨"StandTugs$Field", "receive", "()V"⟩, 10), (⟨"StandTugs$Field", "freeStandFor", "(I)I"⟩, 10), (⟨"StandTugs$Field", "pushBack", "()V"⟩, 10), (⟨"StandTugs$Field", "nextToLeave", "(I)I"⟩, 10), (⟨"StandTugs$Field", "turn", "(I)I"⟩, 10), (⟨"StandTugs$Field", "isCurfew", "()Z"⟩, 10), (⟨"StandTugs$Field", "isPushedFrom", "(I)Z"⟩, 10), (⟨"StandTugs$Field", "freeTugFor", "(I)I"⟩, 10), (⟨"StandTugs$Field", "beginPush", "(I)V"⟩, 10), (⟨"StandTugs$Field", "tow", "()V"⟩, 10), (⟨"StandTugs$Field", "quietMinutes", "()I"⟩, 10)]
theorem lw_r1 : ∀ q ∈ lw_privs_1, lw_okq q := List.forall_mem_cons.mpr ⟨lw_p0, List.forall_mem_cons.mpr ⟨lw_p1, List.forall_mem_cons.mpr ⟨lw_p2, List.forall_mem_cons.mpr ⟨lw_p3, List.forall_mem_cons.mpr ⟨lw_p4, List.forall_mem_cons.mpr ⟨lw_p5, List.forall_mem_cons.mpr ⟨lw_p6, List.forall_mem_cons.mpr ⟨lw_p7, List.forall_mem_cons.mpr ⟨lw_p8, List.forall_mem_cons.mpr ⟨lw_p9, List.forall_mem_cons.mpr ⟨lw_p10, List.forall_mem_cons.mpr ⟨lw_p11, List.forall_mem_cons.mpr ⟨lw_p12, List.forall_mem_cons.mpr ⟨lw_p13, List.forall_mem_cons.mpr ⟨lw_p14, List.forall_mem_cons.mpr ⟨lw_p15, fun _ h => absurd h List.not_mem_nil⟩⟩⟩⟩⟩⟩⟩⟩⟩⟩⟩⟩⟩⟩⟩⟩
theorem lw_p16 : lw_okq (⟨"StandTugs$Field", "countMinutes", "(I)V"⟩, 10) := ⟨⟨by decide +kernel, by decide +kernel⟩, List.mem_of_getElem? (i := 25) (by decide +kernel), List.mem_of_getElem? (i := 464) (by decide +kernel), List.mem_of_getElem? (i := 465) (by decide +kernel)⟩
theorem lw_p17 : lw_okq (⟨"StandTugs$Field", "greatestDelay", "()I"⟩, 10) := ⟨⟨by decide +kernel, by decide +kernel⟩, List.mem_of_getElem? (i := 25) (by decide +kernel), List.mem_of_getElem? (i := 481) (by decide +kernel), List.mem_of_getElem? (i := 482) (by decide +kernel)⟩
theorem lw_p18 : lw_okq (⟨"StandTugs$Field", "areAllGone", "()Z"⟩, 10) := ⟨⟨by decide +kernel, by decide +kernel⟩, List.mem_of_getElem? (i := 25) (by decide +kernel), List.mem_of_getElem? (i := 503) (by decide +kernel), List.mem_of_getElem? (i := 504) (by decide +kernel)⟩
def lw_privs_2 : List (MethodName × Nat) := [(⟨"StandTugs$Field", "countMinutes", "(I)V"⟩, 10), (⟨"StandTugs$Field", "greatestDelay", "()I"⟩, 10), (⟨"StandTugs$Field", "areAllGone", "()Z"⟩, 10)]
theorem lw_r2 : ∀ q ∈ lw_privs_2, lw_okq q := List.forall_mem_cons.mpr ⟨lw_p16, List.forall_mem_cons.mpr ⟨lw_p17, List.forall_mem_cons.mpr ⟨lw_p18, fun _ h => absurd h List.not_mem_nil⟩⟩⟩
def lw_privs : List (MethodName × Nat) := lw_privs_1 ++ (lw_privs_2)
def lw_tbl : List Cond := k2_sels lw_privs ++ tables_1
theorem lw_privs_ok : ∀ q ∈ lw_privs, lw_okq q := by
  show ∀ q ∈ lw_privs_1 ++ (lw_privs_2), lw_okq q
  exact List.forall_mem_append.mpr ⟨lw_r1, lw_r2⟩
/-- the streams that the claim lets the run draw from -/
abbrev lw_cs : List Choice := [Jvm.Choice.named "NaN.bits"]
theorem lw_bits : nanBits ∈ lw_cs := by first | decide | exact List.mem_cons_self | simp [lw_cs, nanBits]
-- ===== end of PART A; then your names; then what follows =====
end
section
/-! ===== BEGIN words of one list among another's, by their places ===== -/
theorem goodIn_r {big : List Cond} (ws : List Cond) (ps : List Nat) (hp : ws = ps.filterMap (fun i => big[i]?)) (h : ws.all goodWord = true) : GoodIn big ws := by
  intro w hw
  have h1 := List.all_eq_true.mp h w hw
  rw [hp] at hw
  obtain ⟨i, -, hi⟩ := List.mem_filterMap.mp hw
  have hm : w ∈ big := by first | exact List.mem_of_getElem? hi | exact List.getElem?_mem hi
  exact ⟨hm, good_of_word h1⟩
theorem goodIn_app {big a b : List Cond} (ha : GoodIn big a) (hb : GoodIn big b) : GoodIn big (a ++ b) := fun w h => (List.mem_append.mp h).elim (ha w) (hb w)
theorem goodIn_ca {big a b : List Cond} {c : Cond} (ha : GoodIn big (c :: a)) (hb : GoodIn big b) : GoodIn big (c :: (a ++ b)) := fun w h => (List.mem_cons.mp h).elim (fun e => ha w (List.mem_cons.mpr (Or.inl e))) (fun h => (List.mem_append.mp h).elim (fun h => ha w (List.mem_cons.mpr (Or.inr h))) (hb w))
theorem goodIn_sub {big ws : List Cond} (hm : ∀ w ∈ ws, w ∈ big) (h : ws.all goodWord = true) : GoodIn big ws := fun w hw => ⟨hm w hw, good_of_word (List.all_eq_true.mp h w hw)⟩
/-! ===== END ===== -/

/-! ===== BEGIN exceptions that leave a method, and their catching by the caller (launches without stack traces) ===== -/
section VXA
/-! The laws vx_back, vx_callV, vx_callS, vx_callSW, vx_throw0, vx_throwS follow proofs of the library, with one case more: JvmDerived/Free/Laws.lean (Back.of_free), Shelf42/LK1.lean (callV, callS), Shelf/KitTraced.lean (throwNew0V, throwNewS). -/
/-- where a method has thrown q: the class by its name, the cell, what was written, the world -/
def vx_T (XC : String → State → State → Prop) (st : State) (q : Addr) (t : State) (mc ms : Nat) (free : Addr → Prop) : Prop :=
  ∃ (E : String) (ce : Cell) (L : List Loc), XC E st t ∧ t.heap[q]? = some ce ∧ ce.vm = .none ∧ st.vm.findClass E = some ce.cls ∧ st.WarmedH t.vm ∧ st.sameButNew ({ t with vm := st.vm } : State) L mc ms ∧ ∀ z ∈ L, free z.base
def vx_Q (Qc : Array Value → State → Outcome → State → Prop) (XC : String → State → State → Prop) (mc ms : Nat) (free : Addr → Prop) : Array Value → State → Outcome → State → Prop := fun a st o t =>
  (Qc a st o t ∧ ∃ L, FrameEnd st o t L mc ms ∧ ∀ q ∈ L, free q.base) ∨ ∃ q, o = .threw q ∧ vx_T XC st q t mc ms free
/-- a callee that returns or throws -/
def vx_Met (l : Launch) (y : MethodName) (ws : List Cond) (rm : Room) (Pc : Array Value → State → Prop) (Qc : Array Value → State → Outcome → State → Prop) (XC : String → State → State → Prop) (mc ms : Nat) (free : Addr → Prop) : Prop :=
  MetFree l y (headSpec ws rm) Pc (fun _ _ _ _ _ => True) (vx_Q Qc XC mc ms free)
def vx_Post (XC : String → State → State → Prop) (mc ms : Nat) (free : Addr → Prop) : Pt → Array Value → Addr → Pt → Prop := fun A a q B =>
  ∃ (g : JFrame) (mk : MethodId) (t : State) (L : List Loc) (E : String) (ce : Cell), B.U.heap = t.heap ∧ B.U.vm = t.vm ∧ XC E (A.U.calling g mk a) t ∧ t.heap[q]? = some ce ∧ ce.vm = .none ∧ A.U.vm.findClass E = some ce.cls ∧ B.locs = A.locs ++ L ∧ (∀ z ∈ L, free z.base) ∧ B.cells = A.cells + mc ∧ B.slots = A.slots + ms
def vx_Back (l : Launch) (R : Room) (p : Program) (e : Env) (below : List Frame) (s : State) (sargs : Array Value) (y : MethodName) (len W9 : Nat)
    (Pre : Pt → Array Value → Prop) (Post : Pt → Array Value → Option Value → Pt → Prop) (PostX : Pt → Array Value → Addr → Pt → Prop) : Prop :=
  ∀ (m : MethodId) (meth : Method) (c : Code) (A : Pt) (g : JFrame) (ig : Instr) (mk : MethodId) (a : Array Value),
    Stand p l e R s m sargs below meth c A.U A.locs A.cells A.slots → g.method = m → g.locals.size = c.maxLocals → decode c.code g.pc = .ok (ig, len) →
    2 * g.monitorRoom + (g.stack.map fun v => v.category).sum ≤ W9 → A.U.methodNamed? y = some mk → Pre A a →
    (∃ (v : Option Value) (B : Pt), Stand p l e R s m sargs below meth c B.U B.locs B.cells B.slots ∧ Post A a v B ∧
      Steps p.tables e below (doInvoke e (A.U.setTop g) [] mk a).1 (B.U.setTop { g with pc := g.pc + len, stack := v.toList ++ g.stack })) ∨
    (∃ (q : Addr) (B : Pt), Stand p l e R s m sargs below meth c B.U B.locs B.cells B.slots ∧ PostX A a q B ∧
      Steps p.tables e below (doInvoke e (A.U.setTop g) [] mk a).1 ((B.U.setTop g).pushFrame (.throwing q)))
section Payer
variable {l : Launch} {R : Room} {p : Program} {e : Env} {below : List Frame} {s : State} {sargs : Array Value} {y : MethodName} {len W9 : Nat}
theorem vx_back {ws : List Cond} {rm : Room} {Pc : Array Value → State → Prop} {Qc : Array Value → State → Outcome → State → Prop} {XC : String → State → State → Prop} {mc ms : Nat} {free : Addr → Prop} {bytes : ByteArray} {maxL : Nat} {ret : Option FieldType}
    (hM : vx_Met l y ws rm Pc Qc XC mc ms free) (hblind : FrameBlind Pc) (hrc : rm.cells = mc) (hrs : rm.slots = ms)
    (hframes : rm.frames + 1 ≤ R.frames) (hlocals : W9 + (maxL + 11) + rm.locals ≤ R.locals)
    (hws : ∀ w ∈ ws, ∀ a' U, s.WarmedH U.vm → w.before a' U = true) (hcode : Cond.code y bytes maxL ret ∈ ws) (hinit : ∀ a' U, s.WarmedH U.vm → (Cond.initialized y.cls).before a' U = true) :
    vx_Back l R p e below s sargs y len W9 (PreOf R mc ms Pc) (PostOf Qc mc ms free) (vx_Post XC mc ms free) := by
  intro m meth c A g ig mk a X hg hsize hdg hW hn hp
  have h1 : (headSpec ws rm).pre.before a A.U = true := atoms_intro fun w hw => hws w hw _ _ X.warmed
  have h2 : (Cond.code y bytes maxL ret).before a A.U = true := hws _ hcode _ _ X.warmed
  have h3 : (Cond.initialized y.cls).before a A.U = true := hinit _ _ X.warmed
  have h4 : A.cells + (headSpec ws rm).room.cells ≤ R.cells := by rw [show (headSpec ws rm).room.cells = mc from hrc]; exact hp.1
  have h5 : A.slots + (headSpec ws rm).room.slots ≤ R.slots := by rw [show (headSpec ws rm).room.slots = ms from hrs]; exact hp.2.1
  have hPc : Pc a (A.U.calling g mk a) := hblind _ _ _ _ hp.2.2
  obtain ⟨U, Ls, c0, s0⟩ := A
  dsimp only [Pt.U, Pt.locs, Pt.cells, Pt.slots] at h1 h2 h3 h4 h5 X hn hPc ⊢
  obtain ⟨methY, cY, hmY, hcY, -, hlY, -, -, -, -⟩ := Cond.code_spec hn h2
  obtain ⟨kY, hkY, -⟩ := className_of_methodNamed hn
  have hinitY : kY.init = .initialized := Cond.initialized_spec (findClass_of_methodNamed hn) hkY h3
  have h : At U g.method c below := by rw [hg]; exact X.here
  have hlocals9 : W9 + (maxL + 11) + (headSpec ws rm).room.locals ≤ R.locals := hlocals
  have happ : (headSpec ws rm).appliesLoose y e.platform (U.calling g mk a) = true :=
    Spec.appliesLoose_calling (g := g) h hdg hn hkY hinitY
      (X.room_calling (g := g) (R' := (headSpec ws rm).room) hsize hmY hcY hframes (by rw [hlY]; omega) h4 h5) h1
  obtain ⟨mid, hmid⟩ := h.above
  have hfr : (U.setTop g).frames = (.java g :: mid) ++ below := by rw [State.frames_setTop' g h.top, hmid]; rfl
  obtain ⟨o, s₂, hsteps, -, hend, hq⟩ := Steps.callFree hM p X.admits X.cas X.clock (acts := []) hfr happ hPc trivial
  have hq' : vx_Q Qc XC mc ms free a (U.calling g mk a) o s₂ := hq
  rw [State.frames_setTop' g h.top] at hend
  obtain ⟨g₀, hg0⟩ := Option.isSome_iff_exists.mp h.top
  obtain ⟨r, hr⟩ := State.topJava?_eq_some.mp hg0
  have hr' : (({ U with heap := s₂.heap, slotsUsed := s₂.slotsUsed } : State).setVm s₂.vm).frames = .java g₀ :: r := hr
  rcases hq' with ⟨hqc, L, hfe, hL⟩ | ⟨q, rfl, E, ce, L, hx, hce, hcv, hcl, hW₂, hsm, hL⟩
  · obtain ⟨⟨v, rfl⟩, hW₂, e2, q2, q3, q4, q5, q6⟩ := id hfe
    have e3 : s₂ = ({ (U.calling g mk a).setFrames s₂.frames with heap := s₂.heap, slotsUsed := s₂.slotsUsed } : State).setVm s₂.vm := by
      have : s₂ = ({ s₂ with vm := (U.calling g mk a).vm } : State).setVm s₂.vm := rfl
      rw [e2] at this
      exact this
    obtain ⟨c₂, i₂, len₂, hc₂, hd₂, hf₂⟩ := hend
    have hW' : U.WarmedH s₂.vm := hW₂
    have hcc : c₂ = c := by
      have h1 : s₂.code? g.method = U.code? g.method := by
        rw [State.code?_eq, State.code?_eq, hW'.alike.method?]
      exact Option.some.inj (hc₂.symm.trans (h1.trans h.code))
    subst hcc
    have hlen : len₂ = len := by rw [hdg] at hd₂; cases hd₂; rfl
    subst hlen
    have hs₂ : s₂ = (({ U with heap := s₂.heap, slotsUsed := s₂.slotsUsed } : State).setVm s₂.vm).setTop { g with pc := g.pc + len₂, stack := v.toList ++ g.stack } := by
      refine e3.trans ?_
      rw [hf₂, State.calling_eq h.top, State.setFrames_setFrames, State.setTop_of_frames _ hr', hr]
      rfl
    have hsame : U.sameButNew ({ U with heap := s₂.heap, slotsUsed := s₂.slotsUsed } : State) L mc ms := by
      refine ⟨?_, q2, q3, q4, q5, q6⟩
      obtain ⟨t, ht, -⟩ := State.frames_cons hr
      show ({ U with heap := s₂.heap, slotsUsed := s₂.slotsUsed } : State) = { U.setFrames U.frames with heap := s₂.heap, slotsUsed := s₂.slotsUsed }
      rw [State.setFrames_self ht]
    subst hg
    refine Or.inl ⟨v, ⟨(({ U with heap := s₂.heap, slotsUsed := s₂.slotsUsed } : State).setVm s₂.vm), Ls ++ L, c0 + mc, s0 + ms⟩,
      ⟨X.admits, X.cas, X.clock, X.frames, X.room, X.hears, X.method, X.code, (X.here.setHeapUsed s₂.heap s₂.slotsUsed).setVm hW'.alike, X.tail, State.WarmedH.trans X.warmed hW', X.limits, X.bytes, X.same.trans (hsame.setVm s.vm)⟩,
      ⟨g, mk, s₂, L, rfl, rfl, hqc, rfl, hL, rfl, rfl⟩, ?_⟩
    show Steps p.tables e below _ ((({ U with heap := s₂.heap, slotsUsed := s₂.slotsUsed } : State).setVm s₂.vm).setTop { g with pc := g.pc + len₂, stack := v.toList ++ g.stack })
    rw [← hs₂]
    exact hsteps
  · obtain ⟨e2, q2, q3, q4, q5, q6⟩ := id hsm
    have e3 : s₂ = ({ (U.calling g mk a).setFrames s₂.frames with heap := s₂.heap, slotsUsed := s₂.slotsUsed } : State).setVm s₂.vm := by
      have : s₂ = ({ s₂ with vm := (U.calling g mk a).vm } : State).setVm s₂.vm := rfl
      rw [e2] at this
      exact this
    have hf₂ : s₂.frames = .throwing q :: .java g :: U.frames.tail := hend
    have hW' : U.WarmedH s₂.vm := hW₂
    have hs₂ : s₂ = ((({ U with heap := s₂.heap, slotsUsed := s₂.slotsUsed } : State).setVm s₂.vm).setTop g).pushFrame (.throwing q) := by
      refine e3.trans ?_
      rw [hf₂, State.calling_eq h.top, State.setFrames_setFrames, State.pushFrame, State.frames_setTop _ hr', State.setTop_of_frames _ hr', State.setFrames_setFrames, hr]
      rfl
    have hsame : U.sameButNew ({ U with heap := s₂.heap, slotsUsed := s₂.slotsUsed } : State) L mc ms := by
      refine ⟨?_, q2, q3, q4, q5, q6⟩
      obtain ⟨t, ht, -⟩ := State.frames_cons hr
      show ({ U with heap := s₂.heap, slotsUsed := s₂.slotsUsed } : State) = { U.setFrames U.frames with heap := s₂.heap, slotsUsed := s₂.slotsUsed }
      rw [State.setFrames_self ht]
    subst hg
    refine Or.inr ⟨q, ⟨(({ U with heap := s₂.heap, slotsUsed := s₂.slotsUsed } : State).setVm s₂.vm), Ls ++ L, c0 + mc, s0 + ms⟩,
      ⟨X.admits, X.cas, X.clock, X.frames, X.room, X.hears, X.method, X.code, (X.here.setHeapUsed s₂.heap s₂.slotsUsed).setVm hW'.alike, X.tail, State.WarmedH.trans X.warmed hW', X.limits, X.bytes, X.same.trans (hsame.setVm s.vm)⟩,
      ⟨g, mk, s₂, L, E, ce, rfl, rfl, hx, hce, hcv, hcl, rfl, hL, rfl, rfl⟩, ?_⟩
    show Steps p.tables e below _ (((({ U with heap := s₂.heap, slotsUsed := s₂.slotsUsed } : State).setVm s₂.vm).setTop g).pushFrame (.throwing q))
    rw [← hs₂]
    exact hsteps
end Payer
section Calls
variable {p : Program} {l : Launch} {e : Env} {R : Room} {s : State} {m : MethodId} {args : Array Value} {below : List Frame} {meth : Method} {c : Code} {T : State} {locs : List Loc} {cells slots : Nat}
theorem vx_callV (X : Stand p l e R s m args below meth c T locs cells slots) (hexec : p.tables.exec = Jvm.exec) {own C : String} {index : Nat} {y : MethodName} {bytes : ByteArray} {maxL : Nat} {ret : Option FieldType}
    (hown : s.vm.findClass own = some m.cls) (hlink : (Cond.methodLink own index y).before args s = true) (hinst : (Cond.instanceMethod y).before args s = true) (hsel : (Cond.selects C y y).before args s = true)
    (hcode : (Cond.code y bytes maxL ret).before args s = true) (hy : y.cls ≠ "java/lang/invoke/MethodHandle" ∧ y.cls ≠ "java/lang/invoke/VarHandle")
    {W9 : Nat} {Pre : Pt → Array Value → Prop} {Post : Pt → Array Value → Option Value → Pt → Prop} {PostX : Pt → Array Value → Addr → Pt → Prop} (hK : vx_Back l R p e below s args y 3 W9 Pre Post PostX)
    {b : Addr} {cellB : Cell} (hcell : T.heap[b]? = some cellB) (hobj : cellB.vm.isStatics = false) (hcls : s.vm.findClass C = some cellB.cls)
    {g : JFrame} (hg : g.method = m) (hsize : g.locals.size = c.maxLocals) {argsL rest : List Value} (hlen : ∀ sig, parseMethodDescriptor y.desc = some sig → argsL.length = sig.parameters.length)
    (hstack : g.stack = argsL.reverse ++ .ref b :: rest) (hW : 2 * g.monitorRoom + (rest.map fun v => v.category).sum ≤ W9) (hdg : decode c.code g.pc = .ok (.invokevirtual index, 3))
    (hpre : ∀ vm₁, s.WarmedH vm₁ → Pre ⟨T.setVm vm₁, locs, cells, slots⟩ (Value.ref b :: argsL).toArray) :
    (∃ (v : Option Value) (vm₁ : Vm) (B : Pt), s.WarmedH vm₁ ∧ Stand p l e R s m args below meth c B.U B.locs B.cells B.slots ∧ Post ⟨T.setVm vm₁, locs, cells, slots⟩ (Value.ref b :: argsL).toArray v B ∧
      ∀ target, Steps p.tables e below (B.U.setTop { g with pc := g.pc + 3, stack := v.toList ++ rest }) target → Steps p.tables e below (T.setTop g) target) ∨
    (∃ (q : Addr) (vm₁ : Vm) (B : Pt), s.WarmedH vm₁ ∧ Stand p l e R s m args below meth c B.U B.locs B.cells B.slots ∧ PostX ⟨T.setVm vm₁, locs, cells, slots⟩ (Value.ref b :: argsL).toArray q B ∧
      Steps p.tables e below (T.setTop g) ((B.U.setTop { g with stack := rest }).pushFrame (.throwing q))) := by
  obtain ⟨mk, methM, hnamed, hmethM, hstM, habM⟩ := Cond.instanceMethod_spec hinst
  obtain ⟨methM', cM, hmethM', -, -, -, -, -, -, hsigM⟩ := Cond.code_spec hnamed hcode
  cases hmethM.symm.trans hmethM'
  obtain ⟨c2, r2, m2, q1, q2, q3, q4, kP, hkP, hkPi⟩ := Cond.selects_spec hsel
  cases hcls.symm.trans q1
  cases (State.methodFound?_of_named hnamed hy).symm.trans q2
  cases hnamed.symm.trans q3
  have hselP : selectMethod e.platform s.vm cellB.cls mk = .method mk := by rw [Launch.admits_selectMethod X.admits]; exact q4
  obtain ⟨vm₁, X₁, hstep₁⟩ := X.invokevirtual hexec hown hlink hnamed hmethM hstM hkP hkPi hy (a := b) (cell := cellB) hcell
    (fun z h => by rw [h] at hobj; cases hobj) hselP hmethM habM hkP hkPi (g := g) hg (argsL := argsL) (rest := rest) (hlen _ hsigM) hstack hdg
  rcases hK m meth c ⟨T.setVm vm₁, locs, cells, slots⟩ { g with stack := rest } (.invokevirtual index) mk (Value.ref b :: argsL).toArray X₁ hg hsize hdg hW (X₁.named hnamed) (hpre vm₁ X₁.warmed) with ⟨v, B, X', hpost, hsteps⟩ | ⟨q, B, X', hpost, hsteps⟩
  · exact Or.inl ⟨v, vm₁, B, X₁.warmed, X', hpost, fun target h => hstep₁ _ fun acts => by rw [doInvoke_state]; exact hsteps.trans h⟩
  · exact Or.inr ⟨q, vm₁, B, X₁.warmed, X', hpost, hstep₁ _ fun acts => by rw [doInvoke_state]; exact hsteps⟩
theorem vx_callS (X : Stand p l e R s m args below meth c T locs cells slots) (hexec : p.tables.exec = Jvm.exec) {own : String} {index : Nat} {y : MethodName} {bytes : ByteArray} {maxL : Nat} {ret : Option FieldType}
    (hown : s.vm.findClass own = some m.cls) (hlink : (Cond.methodLink own index y).before args s = true) (hstat : (Cond.static y).before args s = true) (hinit : (Cond.initialized y.cls).before args s = true)
    (hcode : (Cond.code y bytes maxL ret).before args s = true) (hy : y.cls ≠ "java/lang/invoke/MethodHandle" ∧ y.cls ≠ "java/lang/invoke/VarHandle")
    {W9 : Nat} {Pre : Pt → Array Value → Prop} {Post : Pt → Array Value → Option Value → Pt → Prop} {PostX : Pt → Array Value → Addr → Pt → Prop} (hK : vx_Back l R p e below s args y 3 W9 Pre Post PostX)
    {g : JFrame} (hg : g.method = m) (hsize : g.locals.size = c.maxLocals) {argsL rest : List Value} (hlen : ∀ sig, parseMethodDescriptor y.desc = some sig → argsL.length = sig.parameters.length)
    (hstack : g.stack = argsL.reverse ++ rest) (hW : 2 * g.monitorRoom + (rest.map fun v => v.category).sum ≤ W9) (hdg : decode c.code g.pc = .ok (.invokestatic index, 3))
    (hpre : ∀ vm₁, s.WarmedH vm₁ → Pre ⟨T.setVm vm₁, locs, cells, slots⟩ argsL.toArray) :
    (∃ (v : Option Value) (vm₁ : Vm) (B : Pt), s.WarmedH vm₁ ∧ Stand p l e R s m args below meth c B.U B.locs B.cells B.slots ∧ Post ⟨T.setVm vm₁, locs, cells, slots⟩ argsL.toArray v B ∧
      ∀ target, Steps p.tables e below (B.U.setTop { g with pc := g.pc + 3, stack := v.toList ++ rest }) target → Steps p.tables e below (T.setTop g) target) ∨
    (∃ (q : Addr) (vm₁ : Vm) (B : Pt), s.WarmedH vm₁ ∧ Stand p l e R s m args below meth c B.U B.locs B.cells B.slots ∧ PostX ⟨T.setVm vm₁, locs, cells, slots⟩ argsL.toArray q B ∧
      Steps p.tables e below (T.setTop g) ((B.U.setTop { g with stack := rest }).pushFrame (.throwing q))) := by
  obtain ⟨mk, hnamed⟩ := Cond.code_named hcode
  obtain ⟨methM, cM, hmethM, -, -, -, -, -, -, hsigM⟩ := Cond.code_spec hnamed hcode
  have hstatic : methM.isStatic = true := Cond.static_spec hnamed hmethM hstat
  obtain ⟨kP, hkP, -⟩ := className_of_methodNamed hnamed
  have hinitP : kP.init = .initialized := Cond.initialized_spec (findClass_of_methodNamed hnamed) hkP hinit
  obtain ⟨vm₁, X₁, hstep₁⟩ := X.invokestatic hexec hown hlink hnamed hmethM hstatic hkP hinitP hy (g := g) hg (argsL := argsL) (rest := rest) (hlen _ hsigM) hstack hdg
  rcases hK m meth c ⟨T.setVm vm₁, locs, cells, slots⟩ { g with stack := rest } (.invokestatic index) mk argsL.toArray X₁ hg hsize hdg hW (X₁.named hnamed) (hpre vm₁ X₁.warmed) with ⟨v, B, X', hpost, hsteps⟩ | ⟨q, B, X', hpost, hsteps⟩
  · exact Or.inl ⟨v, vm₁, B, X₁.warmed, X', hpost, fun target h => hstep₁ _ fun acts => by rw [doInvoke_state]; exact hsteps.trans h⟩
  · exact Or.inr ⟨q, vm₁, B, X₁.warmed, X', hpost, hstep₁ _ fun acts => by rw [doInvoke_state]; exact hsteps⟩
end Calls
theorem vx_cls {s : State} {T : State} {vm₁ : Vm} {E : String} {k : ClassId} (hW : s.WarmedH vm₁) (h : (T.setVm vm₁).vm.findClass E = some k) : s.vm.findClass E = some k := by
  have h1 : vm₁.findClass E = some k := h
  rw [hW.alike.findClass] at h1
  exact h1
/-- the method's frame g, with q thrown over it -/
def vx_W (p : Program) (l : Launch) (e : Env) (R : Room) (s : State) (m : MethodId) (args : Array Value) (below : List Frame) (meth : Method) (c : Code) (H : Heap) (locs : List Loc) (cells slots : Nat) (Q : State → Prop) (g : JFrame) (q : Addr) : Prop :=
  ∀ T : State, T.heap = H → Stand p l e R s m args below meth c T locs cells slots → ∃ t, Steps p.tables e below ((T.setTop g).pushFrame (.throwing q)) t ∧ Q t
def vx_Run (p : Program) (l : Launch) (e : Env) (R : Room) (s : State) (m : MethodId) (args : Array Value) (below : List Frame) (meth : Method) (c : Code) (H : Heap) (locs : List Loc) (cells slots mc ms : Nat) (g : JFrame) (rest : List Value) (Qa : State → Outcome → State → Prop) (XC : String → State → State → Prop) (free : Addr → Prop) : Prop :=
  ∀ T : State, T.heap = H → Stand p l e R s m args below meth c T locs cells slots →
    (∃ (v : Option Value) (st₀ t T' : State) (L : List Loc), st₀.heap = H ∧ Stand p l e R s m args below meth c T' (locs ++ L) (cells + mc) (slots + ms) ∧ (∀ q ∈ L, free q.base) ∧ T'.heap = t.heap ∧ T'.vm = t.vm ∧ Qa st₀ (.returned v) t ∧
      Goes p e below T g T' { g with pc := g.pc + 3, stack := v.toList ++ rest }) ∨
    (∃ (q : Addr) (st₀ t T' : State) (L : List Loc) (E : String) (ce : Cell), st₀.heap = H ∧ Stand p l e R s m args below meth c T' (locs ++ L) (cells + mc) (slots + ms) ∧ (∀ z ∈ L, free z.base) ∧ T'.heap = t.heap ∧ T'.vm = t.vm ∧ XC E st₀ t ∧ t.heap[q]? = some ce ∧ ce.vm = .none ∧ s.vm.findClass E = some ce.cls ∧
      Steps p.tables e below (T.setTop g) ((T'.setTop { g with stack := rest }).pushFrame (.throwing q)))
def vx_X {S : Type} (px : S → Prop) (B : String → S → State → Prop) (A : Nat → Prop) : String → State → State → Prop := fun E st t => ∃ u : S, px u ∧ B E u t ∧ va_F A st t
section Runs
variable {p : Program} {l : Launch} {e : Env} {R : Room} {s : State} {m : MethodId} {args : Array Value} {below : List Frame} {meth : Method} {c : Code} {H : Heap} {locs : List Loc} {cells slots : Nat}
variable {y : MethodName} {bytes cc : ByteArray} {maxL nL mc ms n index : Nat} {ret : Option FieldType} {ws : List Cond} {rm : Room} {Pc : Array Value → State → Prop} {Qc : Array Value → State → Outcome → State → Prop} {XC : String → State → State → Prop} {free : Addr → Prop} {Ts : List Cond} {own C : String} {b : Addr} {As rest : List Value} {g : JFrame}
theorem vx_callBack (cb : CallB R s args own index y bytes maxL ret ws rm mc ms n) (hM : vx_Met l y ws rm Pc Qc XC mc ms free) (hbl : FrameBlind Pc) : vx_Back l R p e below s args y 3 8 (PreOf R mc ms Pc) (PostOf Qc mc ms free) (vx_Post XC mc ms free) := by
  obtain ⟨hrc, hrs, hfr, hlo, hws, hcw, -, hini, -⟩ := cb
  exact vx_back (bytes := bytes) (maxL := maxL) (ret := ret) hM hbl hrc hrs hfr hlo hws hcw (fun a' U hW => word_at hW (Or.inl (by first | rfl | simp [Cond.onTables, Cond.keeps, Cond.steady])) hini)
theorem vx_runV (S : CallFix p m c cc nL s args Ts own) (hM : vx_Met l y ws rm Pc Qc XC mc ms free) (cw : CallW R s args own C index y bytes maxL ret ws rm mc ms n) (hp : PreV s H C b Pc As)
    (hg : g.method = m) (hn : As.length = n) (hsize : g.locals.size = nL) (hstack : g.stack = As.reverse ++ .ref b :: rest) (hW : 2 * g.monitorRoom + (rest.map fun v => v.category).sum ≤ 8) (hdg : decode cc g.pc = .ok (.invokevirtual index, 3)) (hf : cells + mc ≤ R.cells ∧ slots + ms ≤ R.slots) :
    vx_Run p l e R s m args below meth c H locs cells slots mc ms g rest (Qc (Value.ref b :: As).toArray) XC free := by
  have hK : vx_Back l R p e below s args y 3 8 (PreOf R mc ms Pc) (PostOf Qc mc ms free) (vx_Post XC mc ms free) := vx_callBack cw.1 hM hp.1
  obtain ⟨⟨-, -, -, -, -, -, hcode, -, hy, hlen, hl⟩, hin, hse⟩ := cw
  obtain ⟨hx, hb, hml, ho, -⟩ := S
  obtain ⟨-, ⟨cellB, hcB, hoB, hclB⟩, hPc⟩ := hp
  intro T hT X
  rcases vx_callV X hx (C := C) (bytes := bytes) (maxL := maxL) (ret := ret) ho hl hin hse hcode hy hK (by rw [hT]; exact hcB) hoB hclB hg (hsize.trans hml.symm) (argsL := As) (rest := rest) (fun sig h => hn.trans (hlen sig h)) hstack hW (by rw [hb]; exact hdg)
    (fun vm₁ hW₁ => ⟨hf.1, hf.2, hPc (T.setVm vm₁) hT hW₁⟩) with ⟨v, vm₁, ⟨U', l2, c2, s2⟩, hW₁, X', ⟨g', mk, t, L, e1, e2, hq, h1, hL, h2, h3⟩, st⟩ | ⟨q, vm₁, ⟨U', l2, c2, s2⟩, hW₁, X', ⟨g', mk, t, L, E, ce, e1, e2, hq, hce, hcv, hcl, h1, hL, h2, h3⟩, st⟩
  · dsimp only [Pt.U, Pt.locs, Pt.cells, Pt.slots] at X' e1 e2 h1 h2 h3 st
    subst h1; subst h2; subst h3
    exact Or.inl ⟨v, (T.setVm vm₁).calling g' mk (Value.ref b :: As).toArray, t, U', L, hT, X', hL, e1, e2, hq, st⟩
  · dsimp only [Pt.U, Pt.locs, Pt.cells, Pt.slots] at X' e1 e2 h1 h2 h3 st hcl
    subst h1; subst h2; subst h3
    exact Or.inr ⟨q, (T.setVm vm₁).calling g' mk (Value.ref b :: As).toArray, t, U', L, E, ce, hT, X', hL, e1, e2, hq, hce, hcv, vx_cls hW₁ hcl, st⟩
theorem vx_runS (S : CallFix p m c cc nL s args Ts own) (hM : vx_Met l y ws rm Pc Qc XC mc ms free) (cw : CallB R s args own index y bytes maxL ret ws rm mc ms n ∧ (Cond.static y).before args s = true) (hp : PreS s H Pc As)
    (hg : g.method = m) (hn : As.length = n) (hsize : g.locals.size = nL) (hstack : g.stack = As.reverse ++ rest) (hW : 2 * g.monitorRoom + (rest.map fun v => v.category).sum ≤ 8) (hdg : decode cc g.pc = .ok (.invokestatic index, 3)) (hf : cells + mc ≤ R.cells ∧ slots + ms ≤ R.slots) :
    vx_Run p l e R s m args below meth c H locs cells slots mc ms g rest (Qc As.toArray) XC free := by
  have hK : vx_Back l R p e below s args y 3 8 (PreOf R mc ms Pc) (PostOf Qc mc ms free) (vx_Post XC mc ms free) := vx_callBack cw.1 hM hp.1
  obtain ⟨⟨-, -, -, -, -, -, hcode, hini, hy, hlen, hl⟩, hstt⟩ := cw
  obtain ⟨hx, hb, hml, ho, -⟩ := S
  intro T hT X
  rcases vx_callS X hx (bytes := bytes) (maxL := maxL) (ret := ret) ho hl hstt hini hcode hy hK hg (hsize.trans hml.symm) (argsL := As) (rest := rest) (fun sig h => hn.trans (hlen sig h)) hstack hW (by rw [hb]; exact hdg)
    (fun vm₁ hW₁ => ⟨hf.1, hf.2, hp.2 (T.setVm vm₁) hT hW₁⟩) with ⟨v, vm₁, ⟨U', l2, c2, s2⟩, hW₁, X', ⟨g', mk, t, L, e1, e2, hq, h1, hL, h2, h3⟩, st⟩ | ⟨q, vm₁, ⟨U', l2, c2, s2⟩, hW₁, X', ⟨g', mk, t, L, E, ce, e1, e2, hq, hce, hcv, hcl, h1, hL, h2, h3⟩, st⟩
  · dsimp only [Pt.U, Pt.locs, Pt.cells, Pt.slots] at X' e1 e2 h1 h2 h3 st
    subst h1; subst h2; subst h3
    exact Or.inl ⟨v, (T.setVm vm₁).calling g' mk As.toArray, t, U', L, hT, X', hL, e1, e2, hq, st⟩
  · dsimp only [Pt.U, Pt.locs, Pt.cells, Pt.slots] at X' e1 e2 h1 h2 h3 st hcl
    subst h1; subst h2; subst h3
    exact Or.inr ⟨q, (T.setVm vm₁).calling g' mk As.toArray, t, U', L, E, ce, hT, X', hL, e1, e2, hq, hce, hcv, vx_cls hW₁ hcl, st⟩
end Runs
section Rows
variable {p : Program} {l : Launch} {e : Env} {R : Room} {s : State} {m : MethodId} {args : Array Value} {below : List Frame} {meth : Method} {c : Code} {H : Heap} {locs : List Loc} {cells slots : Nat} {Q : State → Prop}
variable {mc ms : Nat} {free : Addr → Prop} {A0 A1 : Nat → Prop} {H0 : Heap} {a : Array Value} {pc : Nat} {ls : Array Slot} {st0 rest : List Value}
theorem vx_keep {st₀ t T' : State} {L : List Loc} (h0 : st₀.heap = H) (e1 : T'.heap = t.heap) (hS : va_S A0 H0 H locs) (hA : ∀ q, q < H.size → A1 q → A0 q) (hf : ∀ q, free q → A0 q) (hL : ∀ q ∈ L, free q.base) (hF : va_F A1 st₀ t) :
    H.size ≤ T'.heap.size ∧ (∀ q : Nat, q < H.size → ¬ A1 q → T'.heap[q]? = H[q]?) ∧ va_S A0 H0 T'.heap (locs ++ L) := by
  obtain ⟨hz, hk⟩ := hF
  rw [h0] at hz hk
  exact ⟨by rw [e1]; exact hz, fun q h1 h2 => by rw [e1]; exact hk q h1 h2,
    ⟨Nat.le_trans hS.1 (by rw [e1]; exact hz), fun q h1 h2 => by rw [e1, hk q (Nat.lt_of_lt_of_le h1 hS.1) (fun z => h2 (hA q (Nat.lt_of_lt_of_le h1 hS.1) z))]; exact hS.2.1 q h1 h2, fun q hq => by
      rcases List.mem_append.mp hq with h | h
      · exact hS.2.2 q h
      · exact hf _ (hL q h)⟩⟩
theorem vx_calli {S SX : Type} {post : Int32 → S → Prop} {px : SX → Prop} {B : S → State → Prop} {BX : String → SX → State → Prop} {AX : Nat → Prop} (hr : vx_Run p l e R s m args below meth c H locs cells slots mc ms (F0 m pc ls st0) rest (va_Qi post B A1 a) (vx_X px BX AX) free) (hS : va_S A0 H0 H locs) (hA : ∀ q, q < H.size → A1 q → A0 q) (hf : ∀ q, free q → A0 q) (hAX : ∀ q, q < H.size → AX q → A0 q)
    (kx : ∀ (E : String) (ce : Cell) (q9 : Addr) (u : SX) (t : State) (H1 : Heap) (locs1 : List Loc), t.heap = H1 → s.vm.Alike t.vm → px u → BX E u t → H.size ≤ H1.size → (∀ q : Nat, q < H.size → ¬ AX q → H1[q]? = H[q]?) → va_S A0 H0 H1 locs1 → H1[q9]? = some ce → ce.vm = .none → s.vm.findClass E = some ce.cls → vx_W p l e R s m args below meth c H1 locs1 (cells + mc) (slots + ms) Q (F0 m pc ls rest) q9)
    (kk : ∀ (r : Int32) (u : S) (t : State) (H1 : Heap) (locs1 : List Loc), t.heap = H1 → s.vm.Alike t.vm → post r u → B u t → H.size ≤ H1.size → (∀ q : Nat, q < H.size → ¬ A1 q → H1[q]? = H[q]?) → va_S A0 H0 H1 locs1 → W p l e R s m args below meth c H1 locs1 (cells + mc) (slots + ms) Q (F0 m (pc + 3) ls (.int r :: rest))) : W p l e R s m args below meth c H locs cells slots Q (F0 m pc ls st0) := by
  intro T hT X
  rcases hr T hT X with ⟨v, st₀, t, T', L, h0, X', hL, e1, e2, ⟨⟨r, u, hv, hp, hb⟩, hF⟩, st⟩ | ⟨q, st₀, t, T', L, E, ce, h0, X', hL, e1, e2, ⟨u, hp, hb, hF⟩, hce, hcv, hcl, st⟩
  · cases hv
    obtain ⟨k1, k2, k3⟩ := vx_keep h0 e1 hS hA hf hL hF
    obtain ⟨t2, a1, b1⟩ := kk r u t T'.heap (locs ++ L) e1.symm (by rw [← e2]; exact X'.warmed.alike) hp hb k1 k2 k3 T' rfl X'
    exact ⟨t2, st t2 a1, b1⟩
  · obtain ⟨k1, k2, k3⟩ := vx_keep h0 e1 hS hAX hf hL hF
    obtain ⟨t2, a1, b1⟩ := kx E ce q u t T'.heap (locs ++ L) e1.symm (by rw [← e2]; exact X'.warmed.alike) hp hb k1 k2 k3 (by rw [e1]; exact hce) hcv hcl T' rfl X'
    exact ⟨t2, st.trans a1, b1⟩
theorem vx_calll {S SX : Type} {post : Int64 → S → Prop} {px : SX → Prop} {B : S → State → Prop} {BX : String → SX → State → Prop} {AX : Nat → Prop} (hr : vx_Run p l e R s m args below meth c H locs cells slots mc ms (F0 m pc ls st0) rest (va_Ql post B A1 a) (vx_X px BX AX) free) (hS : va_S A0 H0 H locs) (hA : ∀ q, q < H.size → A1 q → A0 q) (hf : ∀ q, free q → A0 q) (hAX : ∀ q, q < H.size → AX q → A0 q)
    (kx : ∀ (E : String) (ce : Cell) (q9 : Addr) (u : SX) (t : State) (H1 : Heap) (locs1 : List Loc), t.heap = H1 → s.vm.Alike t.vm → px u → BX E u t → H.size ≤ H1.size → (∀ q : Nat, q < H.size → ¬ AX q → H1[q]? = H[q]?) → va_S A0 H0 H1 locs1 → H1[q9]? = some ce → ce.vm = .none → s.vm.findClass E = some ce.cls → vx_W p l e R s m args below meth c H1 locs1 (cells + mc) (slots + ms) Q (F0 m pc ls rest) q9)
    (kk : ∀ (r : Int64) (u : S) (t : State) (H1 : Heap) (locs1 : List Loc), t.heap = H1 → s.vm.Alike t.vm → post r u → B u t → H.size ≤ H1.size → (∀ q : Nat, q < H.size → ¬ A1 q → H1[q]? = H[q]?) → va_S A0 H0 H1 locs1 → W p l e R s m args below meth c H1 locs1 (cells + mc) (slots + ms) Q (F0 m (pc + 3) ls (.long r :: rest))) : W p l e R s m args below meth c H locs cells slots Q (F0 m pc ls st0) := by
  intro T hT X
  rcases hr T hT X with ⟨v, st₀, t, T', L, h0, X', hL, e1, e2, ⟨⟨r, u, hv, hp, hb⟩, hF⟩, st⟩ | ⟨q, st₀, t, T', L, E, ce, h0, X', hL, e1, e2, ⟨u, hp, hb, hF⟩, hce, hcv, hcl, st⟩
  · cases hv
    obtain ⟨k1, k2, k3⟩ := vx_keep h0 e1 hS hA hf hL hF
    obtain ⟨t2, a1, b1⟩ := kk r u t T'.heap (locs ++ L) e1.symm (by rw [← e2]; exact X'.warmed.alike) hp hb k1 k2 k3 T' rfl X'
    exact ⟨t2, st t2 a1, b1⟩
  · obtain ⟨k1, k2, k3⟩ := vx_keep h0 e1 hS hAX hf hL hF
    obtain ⟨t2, a1, b1⟩ := kx E ce q u t T'.heap (locs ++ L) e1.symm (by rw [← e2]; exact X'.warmed.alike) hp hb k1 k2 k3 (by rw [e1]; exact hce) hcv hcl T' rfl X'
    exact ⟨t2, st.trans a1, b1⟩
theorem vx_callf {S SX : Type} {post : UInt32 → S → Prop} {px : SX → Prop} {B : S → State → Prop} {BX : String → SX → State → Prop} {AX : Nat → Prop} (hr : vx_Run p l e R s m args below meth c H locs cells slots mc ms (F0 m pc ls st0) rest (va_Qf post B A1 a) (vx_X px BX AX) free) (hS : va_S A0 H0 H locs) (hA : ∀ q, q < H.size → A1 q → A0 q) (hf : ∀ q, free q → A0 q) (hAX : ∀ q, q < H.size → AX q → A0 q)
    (kx : ∀ (E : String) (ce : Cell) (q9 : Addr) (u : SX) (t : State) (H1 : Heap) (locs1 : List Loc), t.heap = H1 → s.vm.Alike t.vm → px u → BX E u t → H.size ≤ H1.size → (∀ q : Nat, q < H.size → ¬ AX q → H1[q]? = H[q]?) → va_S A0 H0 H1 locs1 → H1[q9]? = some ce → ce.vm = .none → s.vm.findClass E = some ce.cls → vx_W p l e R s m args below meth c H1 locs1 (cells + mc) (slots + ms) Q (F0 m pc ls rest) q9)
    (kk : ∀ (r : UInt32) (u : S) (t : State) (H1 : Heap) (locs1 : List Loc), t.heap = H1 → s.vm.Alike t.vm → post r u → B u t → H.size ≤ H1.size → (∀ q : Nat, q < H.size → ¬ A1 q → H1[q]? = H[q]?) → va_S A0 H0 H1 locs1 → W p l e R s m args below meth c H1 locs1 (cells + mc) (slots + ms) Q (F0 m (pc + 3) ls (.float r :: rest))) : W p l e R s m args below meth c H locs cells slots Q (F0 m pc ls st0) := by
  intro T hT X
  rcases hr T hT X with ⟨v, st₀, t, T', L, h0, X', hL, e1, e2, ⟨⟨r, u, hv, hp, hb⟩, hF⟩, st⟩ | ⟨q, st₀, t, T', L, E, ce, h0, X', hL, e1, e2, ⟨u, hp, hb, hF⟩, hce, hcv, hcl, st⟩
  · cases hv
    obtain ⟨k1, k2, k3⟩ := vx_keep h0 e1 hS hA hf hL hF
    obtain ⟨t2, a1, b1⟩ := kk r u t T'.heap (locs ++ L) e1.symm (by rw [← e2]; exact X'.warmed.alike) hp hb k1 k2 k3 T' rfl X'
    exact ⟨t2, st t2 a1, b1⟩
  · obtain ⟨k1, k2, k3⟩ := vx_keep h0 e1 hS hAX hf hL hF
    obtain ⟨t2, a1, b1⟩ := kx E ce q u t T'.heap (locs ++ L) e1.symm (by rw [← e2]; exact X'.warmed.alike) hp hb k1 k2 k3 (by rw [e1]; exact hce) hcv hcl T' rfl X'
    exact ⟨t2, st.trans a1, b1⟩
theorem vx_calld {S SX : Type} {post : UInt64 → S → Prop} {px : SX → Prop} {B : S → State → Prop} {BX : String → SX → State → Prop} {AX : Nat → Prop} (hr : vx_Run p l e R s m args below meth c H locs cells slots mc ms (F0 m pc ls st0) rest (va_Qd post B A1 a) (vx_X px BX AX) free) (hS : va_S A0 H0 H locs) (hA : ∀ q, q < H.size → A1 q → A0 q) (hf : ∀ q, free q → A0 q) (hAX : ∀ q, q < H.size → AX q → A0 q)
    (kx : ∀ (E : String) (ce : Cell) (q9 : Addr) (u : SX) (t : State) (H1 : Heap) (locs1 : List Loc), t.heap = H1 → s.vm.Alike t.vm → px u → BX E u t → H.size ≤ H1.size → (∀ q : Nat, q < H.size → ¬ AX q → H1[q]? = H[q]?) → va_S A0 H0 H1 locs1 → H1[q9]? = some ce → ce.vm = .none → s.vm.findClass E = some ce.cls → vx_W p l e R s m args below meth c H1 locs1 (cells + mc) (slots + ms) Q (F0 m pc ls rest) q9)
    (kk : ∀ (r : UInt64) (u : S) (t : State) (H1 : Heap) (locs1 : List Loc), t.heap = H1 → s.vm.Alike t.vm → post r u → B u t → H.size ≤ H1.size → (∀ q : Nat, q < H.size → ¬ A1 q → H1[q]? = H[q]?) → va_S A0 H0 H1 locs1 → W p l e R s m args below meth c H1 locs1 (cells + mc) (slots + ms) Q (F0 m (pc + 3) ls (.double r :: rest))) : W p l e R s m args below meth c H locs cells slots Q (F0 m pc ls st0) := by
  intro T hT X
  rcases hr T hT X with ⟨v, st₀, t, T', L, h0, X', hL, e1, e2, ⟨⟨r, u, hv, hp, hb⟩, hF⟩, st⟩ | ⟨q, st₀, t, T', L, E, ce, h0, X', hL, e1, e2, ⟨u, hp, hb, hF⟩, hce, hcv, hcl, st⟩
  · cases hv
    obtain ⟨k1, k2, k3⟩ := vx_keep h0 e1 hS hA hf hL hF
    obtain ⟨t2, a1, b1⟩ := kk r u t T'.heap (locs ++ L) e1.symm (by rw [← e2]; exact X'.warmed.alike) hp hb k1 k2 k3 T' rfl X'
    exact ⟨t2, st t2 a1, b1⟩
  · obtain ⟨k1, k2, k3⟩ := vx_keep h0 e1 hS hAX hf hL hF
    obtain ⟨t2, a1, b1⟩ := kx E ce q u t T'.heap (locs ++ L) e1.symm (by rw [← e2]; exact X'.warmed.alike) hp hb k1 k2 k3 (by rw [e1]; exact hce) hcv hcl T' rfl X'
    exact ⟨t2, st.trans a1, b1⟩
theorem vx_callv {S SX : Type} {post : S → Prop} {px : SX → Prop} {B : S → State → Prop} {BX : String → SX → State → Prop} {AX : Nat → Prop} (hr : vx_Run p l e R s m args below meth c H locs cells slots mc ms (F0 m pc ls st0) rest (va_Qv post B A1 a) (vx_X px BX AX) free) (hS : va_S A0 H0 H locs) (hA : ∀ q, q < H.size → A1 q → A0 q) (hf : ∀ q, free q → A0 q) (hAX : ∀ q, q < H.size → AX q → A0 q)
    (kx : ∀ (E : String) (ce : Cell) (q9 : Addr) (u : SX) (t : State) (H1 : Heap) (locs1 : List Loc), t.heap = H1 → s.vm.Alike t.vm → px u → BX E u t → H.size ≤ H1.size → (∀ q : Nat, q < H.size → ¬ AX q → H1[q]? = H[q]?) → va_S A0 H0 H1 locs1 → H1[q9]? = some ce → ce.vm = .none → s.vm.findClass E = some ce.cls → vx_W p l e R s m args below meth c H1 locs1 (cells + mc) (slots + ms) Q (F0 m pc ls rest) q9)
    (kk : ∀ (u : S) (t : State) (H1 : Heap) (locs1 : List Loc), t.heap = H1 → s.vm.Alike t.vm → post u → B u t → H.size ≤ H1.size → (∀ q : Nat, q < H.size → ¬ A1 q → H1[q]? = H[q]?) → va_S A0 H0 H1 locs1 → W p l e R s m args below meth c H1 locs1 (cells + mc) (slots + ms) Q (F0 m (pc + 3) ls (rest))) : W p l e R s m args below meth c H locs cells slots Q (F0 m pc ls st0) := by
  intro T hT X
  rcases hr T hT X with ⟨v, st₀, t, T', L, h0, X', hL, e1, e2, ⟨⟨u, hv, hp, hb⟩, hF⟩, st⟩ | ⟨q, st₀, t, T', L, E, ce, h0, X', hL, e1, e2, ⟨u, hp, hb, hF⟩, hce, hcv, hcl, st⟩
  · cases hv
    obtain ⟨k1, k2, k3⟩ := vx_keep h0 e1 hS hA hf hL hF
    obtain ⟨t2, a1, b1⟩ := kk u t T'.heap (locs ++ L) e1.symm (by rw [← e2]; exact X'.warmed.alike) hp hb k1 k2 k3 T' rfl X'
    exact ⟨t2, st t2 a1, b1⟩
  · obtain ⟨k1, k2, k3⟩ := vx_keep h0 e1 hS hAX hf hL hF
    obtain ⟨t2, a1, b1⟩ := kx E ce q u t T'.heap (locs ++ L) e1.symm (by rw [← e2]; exact X'.warmed.alike) hp hb k1 k2 k3 (by rw [e1]; exact hce) hcv hcl T' rfl X'
    exact ⟨t2, st.trans a1, b1⟩
/-- caught by the row x of this method's table; the rows ahead don't take it -/
theorem vx_catch {own name : String} {E : String} {ce : Cell} {q : Addr} (hown : s.vm.findClass own = some m.cls) (pre : List ExceptionTableEntry) (x : ExceptionTableEntry) (suf : List ExceptionTableEntry) (hsplit : c.exceptionTable.toList = pre ++ x :: suf)
    (hpass : ∀ z ∈ pre, covers z pc = false ∨ (z.catchType ≠ 0 ∧ ∃ nm : String, (Cond.classLink own z.catchType nm).before args s = true ∧ va_Nc E nm s)) (hx : covers x pc = true) (h0 : x.catchType ≠ 0)
    (hlink : (Cond.classLink own x.catchType name).before args s = true) (hcast : (Cond.castable E name).before args s = true) (hcell : H[q]? = some ce) (hv : ce.vm = .none) (hcl : s.vm.findClass E = some ce.cls)
    (kk : W p l e R s m args below meth c H locs cells slots Q (F0 m x.handlerPc ls [.ref q])) : vx_W p l e R s m args below meth c H locs cells slots Q (F0 m pc ls rest) q := by
  intro T hT X
  have hpl : e.platform.magicAccessors = ({} : Platform).magicAccessors := by rw [X.admits.platform]
  obtain ⟨c3, c4, hc3, hc4, hasg⟩ := Cond.castable_spec hcast
  cases Option.some.inj (hc3.symm.trans hcl)
  obtain ⟨c5, hc5, hcl5⟩ := Cond.classLink_spec hown hlink e.platform hpl
  cases Option.some.inj (hc4.symm.trans hc5)
  obtain ⟨vm', X', st⟩ := X.thenCaughtThrough q (g := F0 m pc ls rest) rfl (Steps.refl _) (by rw [hT]; exact hcell) (by rw [hv]; rfl) (by obtain ⟨k9, h9, -⟩ := Vm.findClass_spec hcl; exact ⟨k9, h9⟩) pre x suf hsplit
    (fun z hz => by
      rcases hpass z hz with h | ⟨hz0, nm, hl1, hn1⟩
      · exact Or.inl h
      · obtain ⟨c6, hc6, hcl6⟩ := Cond.classLink_spec hown hl1 e.platform hpl
        obtain ⟨a8, b8, h1, h2, h3⟩ := hn1
        cases Option.some.inj (h1.symm.trans hcl)
        cases Option.some.inj (h2.symm.trans hc6)
        exact Or.inr ⟨hz0, _, hcl6, h3⟩) hx (Or.inr ⟨h0, c4, hcl5, hasg⟩)
  obtain ⟨t, a1, b1⟩ := kk (T.setVm vm') hT X'
  exact ⟨t, st.trans a1, b1⟩
end Rows
section Ends
variable {p : Program} {l : Launch} {e : Env} {R : Room} {s : State} {m : MethodId} {args : Array Value} {below : List Frame} {meth : Method} {c : Code} {H : Heap} {locs : List Loc} {cells slots : Nat} {Q : State → Prop}
variable {mc ms : Nat} {free : Addr → Prop} {A0 A1 : Nat → Prop} {H0 : Heap} {a : Array Value} {ls : Array Slot} {st0 rest : List Value}
variable {Qc : Array Value → State → Outcome → State → Prop} {XC : String → State → State → Prop}
/-- what a body that may throw owes at its end -/
def vx_MQ (below : List Frame) (Qc : Array Value → State → Outcome → State → Prop) (XC : String → State → State → Prop) (a : Array Value) (s : State) (mc ms : Nat) (free : Addr → Prop) : State → Prop := fun t =>
  ∃ o, t.status = .running ∧ Ended t below o ∧ vx_Q Qc XC mc ms free a s o t
theorem vx_ret {g : JFrame} {mc ms : Nat} (k : W p l e R s m args below meth c H locs cells slots (MQ below Qc args s mc ms free) g) : W p l e R s m args below meth c H locs cells slots (vx_MQ below Qc XC args s mc ms free) g := by
  intro T hT X
  obtain ⟨t, a1, o, b1, b2, b3, b4⟩ := k T hT X
  exact ⟨t, a1, o, b1, b2, Or.inl ⟨b3, b4⟩⟩
/-- not caught here: it goes on to the caller -/
theorem vx_widen {g : JFrame} {q : Addr} {k n : Nat} (h1 : cells ≤ k) (h2 : slots ≤ n) (kk : vx_W p l e R s m args below meth c H locs k n Q g q) : vx_W p l e R s m args below meth c H locs cells slots Q g q := fun T hT X => kk T hT (stand_widen X h1 h2)
theorem vx_out {pc : Nat} {E : String} {ce : Cell} {q : Addr} {mc ms : Nat} (hout : ∀ x ∈ c.exceptionTable.toList, covers x pc = false) (hlocks : meth.locks = false) (hcell : H[q]? = some ce) (hv : ce.vm = .none) (hcl : s.vm.findClass E = some ce.cls)
    (hx : ∀ t : State, t.heap = H → s.vm.Alike t.vm → XC E s t) (hf : ∀ z ∈ locs, free z.base) (hc : cells ≤ mc) (hs : slots ≤ ms) :
    vx_W p l e R s m args below meth c H locs cells slots (vx_MQ below Qc XC args s mc ms free) (F0 m pc ls rest) q := by
  intro T hT X
  obtain ⟨st1, hrun, hend, hW, hsm⟩ := X.leaveThrown q (g := F0 m pc ls rest) rfl rfl rfl hout hlocks
  have hcell9 : (T.setFrames (.throwing q :: below)).heap[q]? = some ce := by
    show T.heap[q]? = some ce
    rw [hT]; exact hcell
  exact ⟨_, st1, .threw q, hrun, hend, Or.inr ⟨q, rfl, E, ce, locs, hx _ hT hW.alike, hcell9, hv, hcl, hW, hsm.mono hc hs, hf⟩⟩
theorem vx_frame {U : State} {k n : Nat} (h : s.sameButNew ({ U with vm := s.vm } : State) locs k n) : s.heap.size ≤ U.heap.size ∧ ∀ q : Nat, q < s.heap.size → (∀ z ∈ locs, z.base ≠ q) → U.heap[q]? = s.heap[q]? := by
  obtain ⟨-, h2, -, -, -, h6⟩ := h
  refine ⟨h2, fun q hq hz => ?_⟩
  obtain ⟨c9, e1, e2, e3, e4⟩ := h6 q _ (Array.getElem?_eq_getElem hq)
  have hs : c9.slots = (s.heap[q]).slots := Array.ext_getElem? fun i => e4 i fun hm => hz _ hm rfl
  have h9 : c9 = s.heap[q] := by
    rw [hs] at e2
    exact e2
  have e5 : U.heap[q]? = some c9 := e1
  rw [e5, h9, Array.getElem?_eq_getElem hq]
/-- the words of a throw but the four that speak of the heap -/
def vx_no (w : Cond) : Bool := decide (w ≠ .isRef (.static Bundle.tN "UNASSIGNED_STACK" Bundle.steD)) && decide (w ≠ .isRef (.static Bundle.tN "SUPPRESSED_SENTINEL" Bundle.listD)) && decide (w ≠ .laysStatic Bundle.tN "UNASSIGNED_STACK" Bundle.steD) && decide (w ≠ .laysStatic Bundle.tN "SUPPRESSED_SENTINEL" Bundle.listD)
def vx_at0 (own : String) (ic : Nat) (X : String) (names : List String) : List Cond := (Bundle.ownAtoms0 own ic X names).filter vx_no
def vx_atS (own : String) (ic : Nat) (X : String) (names : List String) : List Cond := (Bundle.ownAtoms own ic X names).filter vx_no
/-- a word that the tables alone decide, or a good one -/
def vx_ot (w : Cond) : Bool := w.onTables || goodWord w
theorem vx_ot_at {args a' : Array Value} {s U : State} {w : Cond} (hW : s.WarmedH U.vm) (hvm : s.vm = U.vm) (hg : vx_ot w = true) (h : w.before args s = true) : w.before a' U = true := by
  simp only [vx_ot, Bool.or_eq_true] at hg
  rcases hg with hg | hg
  · exact va_tabs hg hvm h
  · exact word_at hW (good_of_word hg) h
/-- a list's words: the good ones out of the method's own list, the others by premises of their own -/
theorem vx_hat {args : Array Value} {s : State} {L B : List Cond} (h1 : ∀ w ∈ L.filter goodWord, w.before args s = true) (h2 : ∀ w ∈ L.filter (fun w => !goodWord w), w ∈ B) (h3 : ∀ w ∈ B, w.before args s = true) : ∀ w ∈ L, w.before args s = true := by
  intro w hw
  by_cases g : goodWord w = true
  · exact h1 w (List.mem_filter.mpr ⟨hw, g⟩)
  · refine h3 w (h2 w (List.mem_filter.mpr ⟨hw, ?_⟩))
    show (!goodWord w) = true
    cases hgw : goodWord w
    · rfl
    · exact absurd hgw g
theorem vx_c {args : Array Value} {s : State} {w : Cond} {B : List Cond} (h : w.before args s = true) (t : ∀ w ∈ B, w.before args s = true) : ∀ w' ∈ w :: B, w'.before args s = true := fun w' h' => (List.mem_cons.mp h').elim (fun e => by rw [e]; exact h) (t w')
theorem vx_n {args : Array Value} {s : State} : ∀ w ∈ ([] : List Cond), w.before args s = true := fun _ h => nomatch h
theorem vx_own {args : Array Value} {s : State} {L : List Cond} (h1 : ∀ w ∈ L.filter vx_no, w.before args s = true)
    (hU : (Cond.isRef (.static Bundle.tN "UNASSIGNED_STACK" Bundle.steD)).before args s = true) (hN : (Cond.isRef (.static Bundle.tN "SUPPRESSED_SENTINEL" Bundle.listD)).before args s = true)
    (lU : (Cond.laysStatic Bundle.tN "UNASSIGNED_STACK" Bundle.steD).before args s = true) (lN : (Cond.laysStatic Bundle.tN "SUPPRESSED_SENTINEL" Bundle.listD).before args s = true) : ∀ w ∈ L, w.before args s = true := by
  intro w hw
  by_cases e1 : w = .isRef (.static Bundle.tN "UNASSIGNED_STACK" Bundle.steD)
  · rw [e1]; exact hU
  · by_cases e2 : w = .isRef (.static Bundle.tN "SUPPRESSED_SENTINEL" Bundle.listD)
    · rw [e2]; exact hN
    · by_cases e3 : w = .laysStatic Bundle.tN "UNASSIGNED_STACK" Bundle.steD
      · rw [e3]; exact lU
      · by_cases e4 : w = .laysStatic Bundle.tN "SUPPRESSED_SENTINEL" Bundle.listD
        · rw [e4]; exact lN
        · exact h1 w (List.mem_filter.mpr ⟨hw, by unfold vx_no; rw [decide_eq_true e1, decide_eq_true e2, decide_eq_true e3, decide_eq_true e4]; rfl⟩)
/-- where a static field lies, its class's statics cell in H -/
def vx_L (C n d : String) (A : Nat → Prop) (U : State) (H : Heap) : Prop := ∃ (c : ClassId) (k : Class) (i : Nat) (f : Field) (a : Nat) (cell : Cell), U.vm.findClass C = some c ∧ U.fieldFound? C n d = some (c, k, i, f) ∧ f.isStatic = true ∧ k.statics = some a ∧ H[a]? = some cell ∧ cell.vm.isStatics = true ∧ cell.cls = c ∧ f.slot < cell.slots.size ∧ k.staticTypes[f.slot]? = some f.type ∧ ¬ A a
theorem vx_L.moved {C n d : String} {A : Nat → Prop} {u U : State} {H : Heap} (hvm : u.vm.Alike U.vm) (h : vx_L C n d A u H) : vx_L C n d A U H := by
  obtain ⟨c, k, i, f, a, cell, h1, h2, h3, h4, h5, h6, h7, h8, h9, h10⟩ := h
  obtain ⟨k', hi', he⟩ := State.fieldFound?_setVm hvm h2
  exact ⟨c, k', i, f, a, cell, by rw [hvm.findClass]; exact h1, hi', h3, by rw [he]; exact h4, h5, h6, h7, h8, by rw [he]; exact h9, h10⟩
theorem vx_L.kept {C n d : String} {A : Nat → Prop} {U : State} {H H1 : Heap} (h : vx_L C n d A U H) (hq : ∀ a : Nat, a < H.size → ¬ A a → H1[a]? = H[a]?) : vx_L C n d A U H1 := by
  obtain ⟨c, k, i, f, a, cell, h1, h2, h3, h4, h5, h6, h7, h8, h9, h10⟩ := h
  exact ⟨c, k, i, f, a, cell, h1, h2, h3, h4, by rw [hq a (Array.getElem?_eq_some_iff.mp h5).1 h10]; exact h5, h6, h7, h8, h9, h10⟩
theorem vx_L.narrow {C n d : String} {A B : Nat → Prop} {U : State} {H : Heap} (h : vx_L C n d A U H) (hAB : ∀ q, B q → A q) : vx_L C n d B U H := by
  obtain ⟨c, k, i, f, a, cell, h1, h2, h3, h4, h5, h6, h7, h8, h9, h10⟩ := h
  exact ⟨c, k, i, f, a, cell, h1, h2, h3, h4, h5, h6, h7, h8, h9, fun z => h10 (hAB _ z)⟩
theorem vx_L.word {C n d : String} {A : Nat → Prop} {s : State} {args : Array Value} (h : vx_L C n d A s s.heap) : (Cond.laysStatic C n d).before args s = true := by
  obtain ⟨c, k, i, f, a, cell, h1, h2, h3, h4, h5, h6, h7, h8, h9, -⟩ := h
  show (Cond.laysStatic C n d).holds args s none s [] = true
  exact Cond.laysStatic_of h1 h2 h3 h4 h5 h6 h7 h8 h9
/-- .. and what it holds: null or some reference -/
def vx_Zq (C n d : String) (A : Nat → Prop) (U : State) (H : Heap) : Prop := va_Zq C n d A U H ∧ vx_L C n d A U H
theorem vx_Zq.moved {C n d : String} {A : Nat → Prop} {u U : State} {H : Heap} (hvm : u.vm.Alike U.vm) (h : vx_Zq C n d A u H) : vx_Zq C n d A U H := ⟨va_Zq.moved hvm h.1, vx_L.moved hvm h.2⟩
theorem vx_Zq.kept {C n d : String} {A : Nat → Prop} {U : State} {H H1 : Heap} (h : vx_Zq C n d A U H) (hq : ∀ a : Nat, a < H.size → ¬ A a → H1[a]? = H[a]?) : vx_Zq C n d A U H1 := ⟨va_Zq.kept h.1 hq, vx_L.kept h.2 hq⟩
theorem vx_Zq.narrow {C n d : String} {A B : Nat → Prop} {U : State} {H : Heap} (h : vx_Zq C n d A U H) (hAB : ∀ q, B q → A q) : vx_Zq C n d B U H := ⟨va_Zq.narrow h.1 hAB, vx_L.narrow h.2 hAB⟩
theorem vx_Zqof {args : Array Value} {s : State} {C n d : String} {A : Nat → Prop} (hl : (Cond.laysStatic C n d).before args s = true) (hini : (Cond.initialized C).before args s = true) (h : (Cond.isRef (.static C n d)).before args s = true) (hA : ∀ a : Nat, a < s.heap.size → ¬ A a) : vx_Zq C n d A s s.heap := by
  refine ⟨va_Zqof hl hini h hA, ?_⟩
  obtain ⟨c, k, i, f, a, cell, h1, h2, h3, h4, h5, h6, h7, h8, h9⟩ := Cond.laysStatic_spec hl
  exact ⟨c, k, i, f, a, cell, h1, h2, h3, h4, h5, h6, h7, h8, h9, hA a (Array.getElem?_eq_some_iff.mp h5).1⟩
theorem vx_isRef {C n d : String} {v : Value} {A : Nat → Prop} {s : State} {args : Array Value} (h : va_Z C n d v A s s.heap) (hv : v.isRef = true) : (Cond.isRef (.static C n d)).before args s = true := by
  obtain ⟨cf, kf, fi, f, a, cell, h1, h2, h3, h4, h5, h6, h7, -⟩ := h
  have he : (Term.static C n d).eval args s none [] s = some v := by
    simp [Term.eval, State.fieldNamed?, h1, h2, h4, h5, h6, h7]
  simp only [Cond.before, Cond.holds, Cond.value, he]
  cases v <;> simp_all [Value.isRef]
theorem vx_isRefq {C n d : String} {A : Nat → Prop} {s : State} {args : Array Value} (h : va_Zq C n d A s s.heap) : (Cond.isRef (.static C n d)).before args s = true := by
  rcases h with h | ⟨t, h⟩
  · exact vx_isRef h rfl
  · exact vx_isRef h rfl
/-- the same frame, seen from here: as if the method were called anew in this heap -/
theorem vx_rebase {T : State} (X : Stand p l e R s m args below meth c T locs cells slots) {R' : Room} (hf : R'.frames ≤ R.frames) (hl : R'.locals ≤ R.locals) (hc : cells + R'.cells ≤ R.cells) (hs : slots + R'.slots ≤ R.slots) :
    Stand p l e R' ((T.setVm s.vm).setFrames (.invoking m args :: below)) m args below meth c T [] 0 0 := by
  have htop : (T.setVm s.vm).topJava?.isSome := X.here.top
  have hF : ((T.setVm s.vm).setFrames (.invoking m args :: below)).frames = .invoking m args :: below := State.frames_setFrames _ (State.cur_lt_of_top htop)
  obtain ⟨g₀, hg0⟩ := Option.isSome_iff_exists.mp htop
  obtain ⟨r, hr⟩ := State.topJava?_eq_some.mp hg0
  have hl9 : e.platform.stackLimits (T.setVm s.vm).me = e.platform.stackLimits s.me := X.limits
  have hb9 : (T.setVm s.vm).me.stackBytes = s.me.stackBytes := X.bytes
  refine ⟨X.admits, X.cas, X.clock, hF, ?_, X.hears, X.method, X.code, X.here, X.tail, X.warmed, ?_, ?_, ?_⟩
  · have h := X.room
    have hU : ((T.setVm s.vm).setFrames (.invoking m args :: below)).localsInUse = s.localsInUse := by
      rw [State.localsInUse_invoking hF (meth := meth) (c := c) X.method X.code, State.localsInUse_invoking X.frames X.method X.code]
    simp only [State.hasRoom, Bool.and_eq_true, decide_eq_true_eq] at h ⊢
    obtain ⟨⟨⟨⟨h1, h2, h3, h4, h5, h6⟩, h7⟩, h8⟩, h9⟩ := h
    rw [X.frames, List.length_cons] at h2 h3
    have q1 := X.heapSize
    have q2 := X.used
    simp only [hF, hU, List.length_cons, State.stackLimits_setFrames, State.stackBytes_setFrames, hl9, hb9]
    refine ⟨⟨⟨⟨by omega, by omega, by omega, by omega, by omega, h6⟩, ?_⟩, ?_⟩, X.book⟩
    · show T.heap.size + R'.cells ≤ e.platform.maxCells
      omega
    · show T.slotsUsed + R'.slots ≤ e.platform.maxSlots
      omega
  · rw [State.stackLimits_setFrames]; rfl
  · rw [State.stackBytes_setFrames]; rfl
  · refine ⟨?_, Nat.le_refl _, Nat.le_refl _, ?_, ?_, fun a c9 h9 => ⟨c9, h9, rfl, rfl, fun _ _ => rfl⟩⟩
    · obtain ⟨t, ht, -⟩ := State.frames_cons hr
      show T.setVm s.vm = { ((T.setVm s.vm).setFrames (.invoking m args :: below)).setFrames (T.setVm s.vm).frames with heap := T.heap, slotsUsed := T.slotsUsed }
      rw [State.setFrames_setFrames, State.setFrames_self ht]
      rfl
    · show T.slotsUsed = T.slotsUsed + ((T.heap.toList.drop T.heap.size).map (·.slots.size)).sum
      rw [List.drop_eq_nil_of_le (Nat.le_of_eq Array.length_toList)]
      rfl
    · show ((T.heap.toList.drop T.heap.size).map (·.slots.size)).sum ≤ 0
      rw [List.drop_eq_nil_of_le (Nat.le_of_eq Array.length_toList)]
      exact Nat.le_refl _
/-- 'throw new E()': new; dup; invokespecial; athrow -/
theorem vx_throw0 {cc : ByteArray} {pc : Nat} (hexec : p.tables.exec = Jvm.exec) (hb : c.code = cc) (hl : l.stackTraces = false) {own cls : String} {names : List String} {ik ic mc ms : Nat} {A : Nat → Prop}
    (hown : s.vm.findClass own = some m.cls) (hcls : Bundle.fit cls = true) (hnames : ∀ n ∈ names, Bundle.fit n = true)
    (hk : (Cond.classLink own ik cls).before args s = true) (hini : (Cond.initialized cls).before args s = true) (hat : ∀ w ∈ vx_at0 own ic cls names, w.before args s = true)
    (hgood : ∀ w ∈ Cond.classLink own ik cls :: Cond.initialized cls :: vx_at0 own ic cls names, vx_ot w = true)
    (hU : vx_Zq Bundle.tN "UNASSIGNED_STACK" Bundle.steD A s s.heap) (hN : vx_Zq Bundle.tN "SUPPRESSED_SENTINEL" Bundle.listD A s s.heap) (hS : va_S A s.heap H locs) (hsize : ls.size = c.maxLocals)
    (d0 : decode cc pc = .ok (.new ik, 3)) (d3 : decode cc (pc + 3) = .ok (.dup, 1)) (d4 : decode cc (pc + 4) = .ok (.invokespecial ic, 3)) (d7 : decode cc (pc + 7) = .ok (.athrow, 1))
    (hout : ∀ x ∈ c.exceptionTable.toList, covers x (pc + 7) = false)
    (hRframes : names.length + 3 < R.frames) (hRlocals : (rest.map fun v => v.category).sum + (13 * (names.length + 1) + 42) ≤ R.locals) (hRcells : cells + 1 ≤ R.cells) (hRslots : slots + 6 ≤ R.slots) (hlocks : meth.locks = false)
    (hx : ∀ t : State, s.vm.Alike t.vm → H.size ≤ t.heap.size → (∀ q : Nat, q < H.size → t.heap[q]? = H[q]?) → XC cls s t)
    (hf : ∀ z ∈ locs, free z.base) (hc : cells + 1 ≤ mc) (hs : slots + 6 ≤ ms) :
    W p l e R s m args below meth c H locs cells slots (vx_MQ below Qc XC args s mc ms free) (F0 m pc ls rest) := by
  intro T hT X
  have htr : e.platform.stackTraces = false := (show e.platform.stackTraces = l.stackTraces by rw [X.admits.platform]).trans hl
  have Y := vx_rebase X (R' := { frames := R.frames, locals := R.locals, cells := 1, slots := 6 }) (Nat.le_refl _) (Nat.le_refl _) hRcells hRslots
  obtain ⟨s', hA⟩ : ∃ z, z = (T.setVm s.vm).setFrames (.invoking m args :: below) := ⟨_, rfl⟩
  rw [← hA] at Y
  have hvm : s'.vm = s.vm := by rw [hA]; rfl
  have hhp : s'.heap = H := by rw [hA]; exact hT
  have hW0 : s.WarmedH s'.vm := by rw [hvm]; exact State.WarmedH.refl s
  have hat' : ∀ w ∈ vx_at0 own ic cls names, w.before args s' = true := fun w hw => vx_ot_at hW0 hvm.symm (hgood w (List.mem_cons_of_mem _ (List.mem_cons_of_mem _ hw))) (hat w hw)
  have hk' : (Cond.classLink own ik cls).before args s' = true := vx_ot_at hW0 hvm.symm (hgood _ List.mem_cons_self) hk
  have hini' : (Cond.initialized cls).before args s' = true := vx_ot_at hW0 hvm.symm (hgood _ (List.mem_cons_of_mem _ List.mem_cons_self)) hini
  have hU' : vx_Zq Bundle.tN "UNASSIGNED_STACK" Bundle.steD A s' s'.heap := by rw [hhp]; exact vx_Zq.moved hW0.alike (hU.kept hS.2.1)
  have hN' : vx_Zq Bundle.tN "SUPPRESSED_SENTINEL" Bundle.listD A s' s'.heap := by rw [hhp]; exact vx_Zq.moved hW0.alike (hN.kept hS.2.1)
  have h : ∀ w ∈ Bundle.ownAtoms0 own ic cls names, w.before args s' = true := vx_own hat' (vx_isRefq hU'.1) (vx_isRefq hN'.1) hU'.2.word hN'.2.word
  have hown' : s'.vm.findClass own = some m.cls := by rw [hvm]; exact hown
  have hins : (Cond.instantiable cls 6).before args s' = true := h _ (by simp [Bundle.ownAtoms0])
  obtain ⟨vm₁, cX, kX, hfX, hkX, -, -, X₁, st1⟩ := Y.newCold hexec (own := own) (C := cls) (index := ik) (n := 6) hown' hk' hins hini'
    (g := F0 m pc ls rest) rfl (by rw [hb]; exact d0) (Nat.le_refl _) (Nat.le_refl _)
  generalize hT1 : (T.setVm vm₁).pushCell { cls := cX, slots := kX.instanceTypes.map defaultValue, vm := .none } = T1 at X₁ st1
  have hcat : (Value.ref T.heap.size).category = 1 := rfl
  have hcellA : T1.heap[T.heap.size]? = some (freshCell cX kX) := by rw [← hT1]; exact State.heap_pushCell_size _ _
  have d3' : decode c.code (pc + 3) = .ok (.dup, 1) := by rw [hb]; exact d3
  obtain ⟨U, hsteps, hrun, hend, hW, hsame, ce, hce, hO⟩ := X₁.ctorThrow0 hexec htr (own := own) (cls := cls) (names := names) (ic := ic) hown' hcls hnames h (fun x hx => nomatch hx) hfX hkX hcellA (by rw [hhp, hT]; exact Nat.le_refl _)
    (g := { method := m, pc := pc + 4, locals := ls, stack := .ref T.heap.size :: .ref T.heap.size :: rest, locked := none }) rfl hsize rfl rfl (rest := rest) rfl
    (by rw [hb]; exact d4) (by rw [hb]; exact d7) hout hRframes (by simp only [List.map_cons, List.sum_cons, hcat]; omega) hlocks
  obtain ⟨f1, f2⟩ := vx_frame hsame
  rw [hhp] at f1 f2
  have hWs : s.WarmedH U.vm := State.WarmedH.trans hW0 hW
  have hcl : s.vm.findClass cls = some ce.cls := by
    have h9 := hO.cls
    rw [hvm] at h9
    exact h9
  have hall : s.sameButNew ({ U with vm := s.vm } : State) locs mc ms := by
    subst hA
    obtain ⟨e1, e2⟩ := hsame
    rw [State.setFrames_setFrames] at e1
    have h2 : (T.setVm s.vm).sameButNew ({ U with vm := s.vm } : State) [] (0 + 1) (0 + 6) := ⟨e1, e2⟩
    have h3 := X.same.trans h2
    rw [List.append_nil] at h3
    exact h3.mono hc hs
  refine ⟨U, ?_, .threw T.heap.size, hrun, hend, Or.inr ⟨T.heap.size, rfl, cls, ce, locs, hx U hWs.alike f1 (fun q hq => f2 q hq (fun z hz => nomatch hz)), hce, hO.vm, hcl, hWs, hall, hf⟩⟩
  refine st1 _ ?_
  show Steps p.tables e below (T1.setTop { method := m, pc := pc + 3, locals := ls, stack := .ref T.heap.size :: rest, locked := none }) _
  jvm_step X₁.here [X₁.here.top, hexec, d3', Value.category]
  exact hsteps
/-- 'throw new E("text")': new; dup; ldc; invokespecial; athrow -/
theorem vx_throwS {cc : ByteArray} {pc : Nat} (hexec : p.tables.exec = Jvm.exec) (hb : c.code = cc) (hl : l.stackTraces = false) {own cls text : String} {names : List String} {ik is ic mc ms sa : Nat} {A : Nat → Prop}
    (hown : s.vm.findClass own = some m.cls) (hcls : Bundle.fit cls = true) (hnames : ∀ n ∈ names, Bundle.fit n = true)
    (hk : (Cond.classLink own ik cls).before args s = true) (hini : (Cond.initialized cls).before args s = true) (hstr : vk_R own is text sa s) (hat : ∀ w ∈ vx_atS own ic cls names, w.before args s = true)
    (hgood : ∀ w ∈ Cond.classLink own ik cls :: Cond.initialized cls :: vx_atS own ic cls names, vx_ot w = true)
    (hU : vx_Zq Bundle.tN "UNASSIGNED_STACK" Bundle.steD A s s.heap) (hN : vx_Zq Bundle.tN "SUPPRESSED_SENTINEL" Bundle.listD A s s.heap) (hS : va_S A s.heap H locs) (hsize : ls.size = c.maxLocals)
    (d0 : decode cc pc = .ok (.new ik, 3)) (d3 : decode cc (pc + 3) = .ok (.dup, 1)) (d4 : decode cc (pc + 4) = .ok (.ldc is, 2)) (d6 : decode cc (pc + 6) = .ok (.invokespecial ic, 3)) (d9 : decode cc (pc + 9) = .ok (.athrow, 1))
    (hout : ∀ x ∈ c.exceptionTable.toList, covers x (pc + 9) = false)
    (hRframes : names.length + 3 < R.frames) (hRlocals : (rest.map fun v => v.category).sum + (13 * (names.length + 1) + 43) ≤ R.locals) (hRcells : cells + 1 ≤ R.cells) (hRslots : slots + 6 ≤ R.slots) (hlocks : meth.locks = false)
    (hx : ∀ t : State, s.vm.Alike t.vm → H.size ≤ t.heap.size → (∀ q : Nat, q < H.size → t.heap[q]? = H[q]?) → XC cls s t)
    (hf : ∀ z ∈ locs, free z.base) (hc : cells + 1 ≤ mc) (hs : slots + 6 ≤ ms) :
    W p l e R s m args below meth c H locs cells slots (vx_MQ below Qc XC args s mc ms free) (F0 m pc ls rest) := by
  intro T hT X
  have htr : e.platform.stackTraces = false := (show e.platform.stackTraces = l.stackTraces by rw [X.admits.platform]).trans hl
  have Y := vx_rebase X (R' := { frames := R.frames, locals := R.locals, cells := 1, slots := 6 }) (Nat.le_refl _) (Nat.le_refl _) hRcells hRslots
  obtain ⟨s', hA⟩ : ∃ z, z = (T.setVm s.vm).setFrames (.invoking m args :: below) := ⟨_, rfl⟩
  rw [← hA] at Y
  have hvm : s'.vm = s.vm := by rw [hA]; rfl
  have hhp : s'.heap = H := by rw [hA]; exact hT
  have hW0 : s.WarmedH s'.vm := by rw [hvm]; exact State.WarmedH.refl s
  have hat' : ∀ w ∈ vx_atS own ic cls names, w.before args s' = true := fun w hw => vx_ot_at hW0 hvm.symm (hgood w (List.mem_cons_of_mem _ (List.mem_cons_of_mem _ hw))) (hat w hw)
  have hk' : (Cond.classLink own ik cls).before args s' = true := vx_ot_at hW0 hvm.symm (hgood _ List.mem_cons_self) hk
  have hini' : (Cond.initialized cls).before args s' = true := vx_ot_at hW0 hvm.symm (hgood _ (List.mem_cons_of_mem _ List.mem_cons_self)) hini
  have hU' : vx_Zq Bundle.tN "UNASSIGNED_STACK" Bundle.steD A s' s'.heap := by rw [hhp]; exact vx_Zq.moved hW0.alike (hU.kept hS.2.1)
  have hN' : vx_Zq Bundle.tN "SUPPRESSED_SENTINEL" Bundle.listD A s' s'.heap := by rw [hhp]; exact vx_Zq.moved hW0.alike (hN.kept hS.2.1)
  have h : ∀ w ∈ Bundle.ownAtoms own ic cls names, w.before args s' = true := vx_own hat' (vx_isRefq hU'.1) (vx_isRefq hN'.1) hU'.2.word hN'.2.word
  have hown' : s'.vm.findClass own = some m.cls := by rw [hvm]; exact hown
  have hins : (Cond.instantiable cls 6).before args s' = true := h _ (by simp [Bundle.ownAtoms])
  obtain ⟨vm₁, cX, kX, hfX, hkX, -, -, X₁, st1⟩ := Y.newCold hexec (own := own) (C := cls) (index := ik) (n := 6) hown' hk' hins hini'
    (g := F0 m pc ls rest) rfl (by rw [hb]; exact d0) (Nat.le_refl _) (Nat.le_refl _)
  generalize hT1 : (T.setVm vm₁).pushCell { cls := cX, slots := kX.instanceTypes.map defaultValue, vm := .none } = T1 at X₁ st1
  have hcat : (Value.ref T.heap.size).category = 1 := rfl
  have hcellA : T1.heap[T.heap.size]? = some (freshCell cX kX) := by rw [← hT1]; exact State.heap_pushCell_size _ _
  have d3' : decode c.code (pc + 3) = .ok (.dup, 1) := by rw [hb]; exact d3
  have d4' : decode c.code (pc + 4) = .ok (.ldc is, 2) := by rw [hb]; exact d4
  have hstr' : vk_R own is text sa s' := vk_R.warm hW0 hstr
  obtain ⟨U, hsteps, hrun, hend, hW, hsame, ce, hce, hO⟩ := X₁.ctorThrowS hexec htr (own := own) (cls := cls) (names := names) (ic := ic) hown' hcls hnames h (fun x hx => nomatch hx) hfX hkX hcellA (by rw [hhp, hT]; exact Nat.le_refl _) (msg := .ref sa) rfl
    (g := { method := m, pc := pc + 6, locals := ls, stack := .ref sa :: .ref T.heap.size :: .ref T.heap.size :: rest, locked := none }) rfl hsize rfl rfl (rest := rest) rfl
    (by rw [hb]; exact d6) (by rw [hb]; exact d9) hout hRframes (by simp only [List.map_cons, List.sum_cons, hcat]; omega) hlocks
  obtain ⟨f1, f2⟩ := vx_frame hsame
  rw [hhp] at f1 f2
  have hWs : s.WarmedH U.vm := State.WarmedH.trans hW0 hW
  have hcl : s.vm.findClass cls = some ce.cls := by
    have h9 := hO.cls
    rw [hvm] at h9
    exact h9
  have hall : s.sameButNew ({ U with vm := s.vm } : State) locs mc ms := by
    subst hA
    obtain ⟨e1, e2⟩ := hsame
    rw [State.setFrames_setFrames] at e1
    have h2 : (T.setVm s.vm).sameButNew ({ U with vm := s.vm } : State) [] (0 + 1) (0 + 6) := ⟨e1, e2⟩
    have h3 := X.same.trans h2
    rw [List.append_nil] at h3
    exact h3.mono hc hs
  refine ⟨U, ?_, .threw T.heap.size, hrun, hend, Or.inr ⟨T.heap.size, rfl, cls, ce, locs, hx U hWs.alike f1 (fun q hq => f2 q hq (fun z hz => nomatch hz)), hce, hO.vm, hcl, hWs, hall, hf⟩⟩
  refine st1 _ ?_
  show Steps p.tables e below (T1.setTop { method := m, pc := pc + 3, locals := ls, stack := .ref T.heap.size :: rest, locked := none }) _
  jvm_step X₁.here [X₁.here.top, hexec, d3', Value.category]
  exact X₁.ldcString hexec (own := own) (text := text) (index := is) (a := sa) hown' hstr'.1 hstr'.2
    (g := { method := m, pc := pc + 4, locals := ls, stack := .ref T.heap.size :: .ref T.heap.size :: rest, locked := none }) rfl d4' _ hsteps
/-- 'throw new E("text")', the text by a wide index -/
theorem vx_throwSW {cc : ByteArray} {pc : Nat} (hexec : p.tables.exec = Jvm.exec) (hb : c.code = cc) (hl : l.stackTraces = false) {own cls text : String} {names : List String} {ik is ic mc ms sa : Nat} {A : Nat → Prop}
    (hown : s.vm.findClass own = some m.cls) (hcls : Bundle.fit cls = true) (hnames : ∀ n ∈ names, Bundle.fit n = true)
    (hk : (Cond.classLink own ik cls).before args s = true) (hini : (Cond.initialized cls).before args s = true) (hstr : vk_R own is text sa s) (hat : ∀ w ∈ vx_atS own ic cls names, w.before args s = true)
    (hgood : ∀ w ∈ Cond.classLink own ik cls :: Cond.initialized cls :: vx_atS own ic cls names, vx_ot w = true)
    (hU : vx_Zq Bundle.tN "UNASSIGNED_STACK" Bundle.steD A s s.heap) (hN : vx_Zq Bundle.tN "SUPPRESSED_SENTINEL" Bundle.listD A s s.heap) (hS : va_S A s.heap H locs) (hsize : ls.size = c.maxLocals)
    (d0 : decode cc pc = .ok (.new ik, 3)) (d3 : decode cc (pc + 3) = .ok (.dup, 1)) (d4 : decode cc (pc + 4) = .ok (.ldc_w is, 3)) (d7 : decode cc (pc + 7) = .ok (.invokespecial ic, 3)) (d10 : decode cc (pc + 10) = .ok (.athrow, 1))
    (hout : ∀ x ∈ c.exceptionTable.toList, covers x (pc + 10) = false)
    (hRframes : names.length + 3 < R.frames) (hRlocals : (rest.map fun v => v.category).sum + (13 * (names.length + 1) + 43) ≤ R.locals) (hRcells : cells + 1 ≤ R.cells) (hRslots : slots + 6 ≤ R.slots) (hlocks : meth.locks = false)
    (hx : ∀ t : State, s.vm.Alike t.vm → H.size ≤ t.heap.size → (∀ q : Nat, q < H.size → t.heap[q]? = H[q]?) → XC cls s t)
    (hf : ∀ z ∈ locs, free z.base) (hc : cells + 1 ≤ mc) (hs : slots + 6 ≤ ms) :
    W p l e R s m args below meth c H locs cells slots (vx_MQ below Qc XC args s mc ms free) (F0 m pc ls rest) := by
  intro T hT X
  have htr : e.platform.stackTraces = false := (show e.platform.stackTraces = l.stackTraces by rw [X.admits.platform]).trans hl
  have Y := vx_rebase X (R' := { frames := R.frames, locals := R.locals, cells := 1, slots := 6 }) (Nat.le_refl _) (Nat.le_refl _) hRcells hRslots
  obtain ⟨s', hA⟩ : ∃ z, z = (T.setVm s.vm).setFrames (.invoking m args :: below) := ⟨_, rfl⟩
  rw [← hA] at Y
  have hvm : s'.vm = s.vm := by rw [hA]; rfl
  have hhp : s'.heap = H := by rw [hA]; exact hT
  have hW0 : s.WarmedH s'.vm := by rw [hvm]; exact State.WarmedH.refl s
  have hat' : ∀ w ∈ vx_atS own ic cls names, w.before args s' = true := fun w hw => vx_ot_at hW0 hvm.symm (hgood w (List.mem_cons_of_mem _ (List.mem_cons_of_mem _ hw))) (hat w hw)
  have hk' : (Cond.classLink own ik cls).before args s' = true := vx_ot_at hW0 hvm.symm (hgood _ List.mem_cons_self) hk
  have hini' : (Cond.initialized cls).before args s' = true := vx_ot_at hW0 hvm.symm (hgood _ (List.mem_cons_of_mem _ List.mem_cons_self)) hini
  have hU' : vx_Zq Bundle.tN "UNASSIGNED_STACK" Bundle.steD A s' s'.heap := by rw [hhp]; exact vx_Zq.moved hW0.alike (hU.kept hS.2.1)
  have hN' : vx_Zq Bundle.tN "SUPPRESSED_SENTINEL" Bundle.listD A s' s'.heap := by rw [hhp]; exact vx_Zq.moved hW0.alike (hN.kept hS.2.1)
  have h : ∀ w ∈ Bundle.ownAtoms own ic cls names, w.before args s' = true := vx_own hat' (vx_isRefq hU'.1) (vx_isRefq hN'.1) hU'.2.word hN'.2.word
  have hown' : s'.vm.findClass own = some m.cls := by rw [hvm]; exact hown
  have hins : (Cond.instantiable cls 6).before args s' = true := h _ (by simp [Bundle.ownAtoms])
  obtain ⟨vm₁, cX, kX, hfX, hkX, -, -, X₁, st1⟩ := Y.newCold hexec (own := own) (C := cls) (index := ik) (n := 6) hown' hk' hins hini'
    (g := F0 m pc ls rest) rfl (by rw [hb]; exact d0) (Nat.le_refl _) (Nat.le_refl _)
  generalize hT1 : (T.setVm vm₁).pushCell { cls := cX, slots := kX.instanceTypes.map defaultValue, vm := .none } = T1 at X₁ st1
  have hcat : (Value.ref T.heap.size).category = 1 := rfl
  have hcellA : T1.heap[T.heap.size]? = some (freshCell cX kX) := by rw [← hT1]; exact State.heap_pushCell_size _ _
  have d3' : decode c.code (pc + 3) = .ok (.dup, 1) := by rw [hb]; exact d3
  have d4' : decode c.code (pc + 4) = .ok (.ldc_w is, 3) := by rw [hb]; exact d4
  have hstr' : vk_R own is text sa s' := vk_R.warm hW0 hstr
  obtain ⟨U, hsteps, hrun, hend, hW, hsame, ce, hce, hO⟩ := X₁.ctorThrowS hexec htr (own := own) (cls := cls) (names := names) (ic := ic) hown' hcls hnames h (fun x hx => nomatch hx) hfX hkX hcellA (by rw [hhp, hT]; exact Nat.le_refl _) (msg := .ref sa) rfl
    (g := { method := m, pc := pc + 7, locals := ls, stack := .ref sa :: .ref T.heap.size :: .ref T.heap.size :: rest, locked := none }) rfl hsize rfl rfl (rest := rest) rfl
    (by rw [hb]; exact d7) (by rw [hb]; exact d10) hout hRframes (by simp only [List.map_cons, List.sum_cons, hcat]; omega) hlocks
  obtain ⟨f1, f2⟩ := vx_frame hsame
  rw [hhp] at f1 f2
  have hWs : s.WarmedH U.vm := State.WarmedH.trans hW0 hW
  have hcl : s.vm.findClass cls = some ce.cls := by
    have h9 := hO.cls
    rw [hvm] at h9
    exact h9
  have hall : s.sameButNew ({ U with vm := s.vm } : State) locs mc ms := by
    subst hA
    obtain ⟨e1, e2⟩ := hsame
    rw [State.setFrames_setFrames] at e1
    have h2 : (T.setVm s.vm).sameButNew ({ U with vm := s.vm } : State) [] (0 + 1) (0 + 6) := ⟨e1, e2⟩
    have h3 := X.same.trans h2
    rw [List.append_nil] at h3
    exact h3.mono hc hs
  refine ⟨U, ?_, .threw T.heap.size, hrun, hend, Or.inr ⟨T.heap.size, rfl, cls, ce, locs, hx U hWs.alike f1 (fun q hq => f2 q hq (fun z hz => nomatch hz)), hce, hO.vm, hcl, hWs, hall, hf⟩⟩
  refine st1 _ ?_
  show Steps p.tables e below (T1.setTop { method := m, pc := pc + 3, locals := ls, stack := .ref T.heap.size :: rest, locked := none }) _
  jvm_step X₁.here [X₁.here.top, hexec, d3', Value.category]
  exact X₁.ldcStringW hexec (own := own) (text := text) (index := is) (a := sa) hown' hstr'.1 hstr'.2
    (g := { method := m, pc := pc + 4, locals := ls, stack := .ref T.heap.size :: .ref T.heap.size :: rest, locked := none }) rfl d4' _ hsteps
end Ends
section Bodies
variable {l : Launch}
theorem vx_ofW {y : MethodName} {ws ws' : List Cond} {rm : Room} {Pc : Array Value → State → Prop} {Qc : Array Value → State → Outcome → State → Prop} {XC : String → State → State → Prop} {mc ms : Nat} {free : Addr → Prop} {cc : ByteArray} {maxL : Nat} {ret : Option FieldType}
    (hy : plainName y.cls = true) (hw : ws = Cond.code y cc maxL ret :: ws')
    (body : ∀ p e s m args below meth c s₁, BodyLoose p l y (headSpec ws rm) cc maxL ret e s m args below meth c s₁ → c.maxLocals = maxL → (∀ x ∈ c.exceptionTable.toList, False) → Pc args s →
      W p l e (headSpec ws rm).room s m args below meth c s.heap [] 0 0 (vx_MQ below Qc XC args s mc ms free) (entryFrame m args maxL)) : vx_Met l y ws rm Pc Qc XC mc ms free := by
  refine MetFree.of_bodyS (code := cc) (maxLocals := maxL) (ret := ret) hy ?_ ?_
  · intro args s m h hn
    obtain ⟨meth, c, h1, h2, h3, h4, h5, h6, -, -⟩ := Cond.code_spec hn (atoms_spec (ws := ws) h _ (by rw [hw]; exact List.mem_cons_self))
    exact ⟨meth, c, h1, h2, h3, h4, h5, h6⟩
  · intro p e s m args below meth c s₁ B hml hP _
    have hh0 : s₁.heap = s.heap := by rw [B.state]; rfl
    have ht : ∀ x ∈ c.exceptionTable.toList, False := by
      obtain ⟨meth9, c9, h1, h2, -, -, -, -, h7, -⟩ := Cond.code_spec B.named (atoms_spec (ws := ws) B.pre _ (by rw [hw]; exact List.mem_cons_self))
      cases Option.some.inj (h1.symm.trans B.method)
      cases Option.some.inj (h2.symm.trans (Stand.of_body B).code)
      intro x hx
      rw [Array.isEmpty_iff.mp h7] at hx
      cases hx
    obtain ⟨t, a1, o, b1, b2, b3⟩ := body p e s m args below meth c s₁ B hml ht hP s₁ hh0 (Stand.of_body B)
    exact ⟨t, o, a1, b1, b2, b3⟩
/-- the table of a body with handlers -/
theorem vx_table {p : Program} {x y : MethodName} {S : Spec} {cc bytes : ByteArray} {maxL maxL' : Nat} {ret ret' : Option FieldType} {e : Env} {s s₁ : State} {m : MethodId} {args : Array Value} {below : List Frame} {meth : Method} {c : Code} {hh : List (Nat × Nat × Nat × Nat)}
    (B : BodyLoose p l y S cc maxL ret e s m args below meth c s₁) (h : (Cond.codeWith y bytes maxL' ret' hh).before args s = true) : c.exceptionTable.toList = tableOf hh := by
  obtain ⟨m9, meth9, c9, hn9, h1, h2, -, -, h6, -⟩ := Cond.codeWith_spec h
  cases Option.some.inj (hn9.symm.trans B.named)
  cases Option.some.inj (h1.symm.trans B.method)
  cases Option.some.inj (h2.symm.trans (Stand.of_body B).code)
  rw [← h6, table_eq]
end Bodies
end VXA
/-! ===== END ===== -/
/-! ===== BEGIN a static call of a method with an exception table ===== -/
section VXS
variable {p : Program} {l : Launch} {e : Env} {R : Room} {s : State} {m : MethodId} {args : Array Value} {below : List Frame} {meth : Method} {c : Code} {T : State} {H : Heap} {locs : List Loc} {cells slots : Nat}
abbrev vx_CSW (R : Room) (s : State) (args : Array Value) (own : String) (index : Nat) (y : MethodName) (bytes : ByteArray) (maxL : Nat) (ret : Option FieldType) (hh : List (Nat × Nat × Nat × Nat)) (ws : List Cond) (rm : Room) (mc ms n : Nat) : Prop :=
  (rm.cells = mc ∧ rm.slots = ms ∧ rm.frames + 1 ≤ R.frames ∧ 8 + (maxL + 11) + rm.locals ≤ R.locals ∧ (∀ w ∈ ws, ∀ (a' : Array Value) (U : State), s.WarmedH U.vm → w.before a' U = true) ∧ Cond.codeWith y bytes maxL ret hh ∈ ws) ∧
  (Cond.codeWith y bytes maxL ret hh).before args s = true ∧ (Cond.initialized y.cls).before args s = true ∧ (y.cls ≠ "java/lang/invoke/MethodHandle" ∧ y.cls ≠ "java/lang/invoke/VarHandle") ∧
  (∀ sig, parseMethodDescriptor y.desc = some sig → n = sig.parameters.length) ∧ (Cond.methodLink own index y).before args s = true ∧ (Cond.static y).before args s = true
theorem vx_cwSW {own : String} {index maxL mc ms : Nat} {y : MethodName} {bytes : ByteArray} {ret : Option FieldType} {hh : List (Nat × Nat × Nat × Nat)} {Ts ws ws' : List Cond} {rm : Room} (n : Nat) (ht : ∀ w ∈ Ts, w.before args s = true) (hT : GoodIn Ts (va_wsS own index y ws)) (hw : ws = Cond.codeWith y bytes maxL ret hh :: ws') (hrc : rm.cells = mc) (hrs : rm.slots = ms)
    (hd : y.cls ≠ "java/lang/invoke/MethodHandle" ∧ y.cls ≠ "java/lang/invoke/VarHandle" ∧ (parseMethodDescriptor y.desc).map (fun d => d.parameters.length) = some n) (hR : rm.frames + 1 ≤ R.frames ∧ 8 + (maxL + 11) + rm.locals ≤ R.locals) :
    vx_CSW R s args own index y bytes maxL ret hh ws rm mc ms n := by
  have ok : ∀ w ∈ va_wsS own index y ws, w.before args s = true := fun w h => ht w (hT w h).1
  have hG : GoodIn Ts ws := fun w h => hT w (by unfold va_wsS; exact List.mem_append_right _ h)
  have hc : Cond.codeWith y bytes maxL ret hh ∈ ws := by rw [hw]; exact List.mem_cons_self
  refine ⟨⟨hrc, hrs, hR.1, hR.2, pay_in ht hG, hc⟩, ht _ (hG _ hc).1, ok _ (by simp [va_wsS]), ⟨hd.1, hd.2.1⟩, fun sig h => ?_, ok _ (by simp [va_wsS]), ok _ (by simp [va_wsS])⟩
  have h2 := hd.2.2
  rw [h] at h2
  exact (Option.some.inj h2).symm
theorem vx_callSW (X : Stand p l e R s m args below meth c T locs cells slots) (hexec : p.tables.exec = Jvm.exec) {own : String} {index : Nat} {y : MethodName} {bytes : ByteArray} {maxL : Nat} {ret : Option FieldType} {hh : List (Nat × Nat × Nat × Nat)}
    (hown : s.vm.findClass own = some m.cls) (hlink : (Cond.methodLink own index y).before args s = true) (hstat : (Cond.static y).before args s = true) (hinit : (Cond.initialized y.cls).before args s = true)
    (hcode : (Cond.codeWith y bytes maxL ret hh).before args s = true) (hy : y.cls ≠ "java/lang/invoke/MethodHandle" ∧ y.cls ≠ "java/lang/invoke/VarHandle")
    {W9 : Nat} {Pre : Pt → Array Value → Prop} {Post : Pt → Array Value → Option Value → Pt → Prop} (hK : Back l R p e below s args y 3 W9 Pre Post)
    {g : JFrame} (hg : g.method = m) (hsize : g.locals.size = c.maxLocals) {argsL rest : List Value} (hlen : ∀ sig, parseMethodDescriptor y.desc = some sig → argsL.length = sig.parameters.length)
    (hstack : g.stack = argsL.reverse ++ rest) (hW : 2 * g.monitorRoom + (rest.map fun v => v.category).sum ≤ W9) (hdg : decode c.code g.pc = .ok (.invokestatic index, 3))
    (hpre : ∀ vm₁, s.WarmedH vm₁ → Pre ⟨T.setVm vm₁, locs, cells, slots⟩ argsL.toArray) :
    ∃ (v : Option Value) (vm₁ : Vm) (B : Pt), s.WarmedH vm₁ ∧ Stand p l e R s m args below meth c B.U B.locs B.cells B.slots ∧ Post ⟨T.setVm vm₁, locs, cells, slots⟩ argsL.toArray v B ∧
      ∀ target, Steps p.tables e below (B.U.setTop { g with pc := g.pc + 3, stack := v.toList ++ rest }) target → Steps p.tables e below (T.setTop g) target := by
  obtain ⟨mk, methM, cM, hnamed, hmethM, -, -, -, -, -, -, hsigM⟩ := Cond.codeWith_spec hcode
  have hstatic : methM.isStatic = true := Cond.static_spec hnamed hmethM hstat
  obtain ⟨kP, hkP, -⟩ := className_of_methodNamed hnamed
  have hinitP : kP.init = .initialized := Cond.initialized_spec (findClass_of_methodNamed hnamed) hkP hinit
  obtain ⟨vm₁, X₁, hstep₁⟩ := X.invokestatic hexec hown hlink hnamed hmethM hstatic hkP hinitP hy (g := g) hg (argsL := argsL) (rest := rest) (hlen _ hsigM) hstack hdg
  obtain ⟨v, B, X', hpost, hsteps⟩ := hK m meth c ⟨T.setVm vm₁, locs, cells, slots⟩ { g with stack := rest } (.invokestatic index) mk argsL.toArray X₁ hg hsize hdg hW (X₁.named hnamed) (hpre vm₁ X₁.warmed)
  exact ⟨v, vm₁, B, X₁.warmed, X', hpost, fun target h => hstep₁ _ fun acts => by rw [doInvoke_state]; exact hsteps.trans h⟩
theorem vx_runSW {y : MethodName} {bytes cc : ByteArray} {maxL nL mc ms n index : Nat} {ret : Option FieldType} {hh : List (Nat × Nat × Nat × Nat)} {ws : List Cond} {rm : Room} {Pc : Array Value → State → Prop} {Qc : Array Value → State → Outcome → State → Prop} {free : Addr → Prop} {Ts : List Cond} {own : String} {As rest : List Value} {g : JFrame}
    (S : CallFix p m c cc nL s args Ts own) (hM : Met l y ws rm Pc Qc mc ms free) (cw : vx_CSW R s args own index y bytes maxL ret hh ws rm mc ms n) (hp : PreS s H Pc As)
    (hg : g.method = m) (hn : As.length = n) (hsize : g.locals.size = nL) (hstack : g.stack = As.reverse ++ rest) (hW : 2 * g.monitorRoom + (rest.map fun v => v.category).sum ≤ 8) (hdg : decode cc g.pc = .ok (.invokestatic index, 3)) (hf : cells + mc ≤ R.cells ∧ slots + ms ≤ R.slots) :
    va_Run p l e R s m args below meth c H locs cells slots mc ms g rest (Qc As.toArray) (free) := by
  obtain ⟨⟨hrc, hrs, hfr, hlo, hws, hcw⟩, hcode, hini, hy, hlen, hl, hstt⟩ := cw
  have hK : Back l R p e below s args y 3 8 (PreOf R mc ms Pc) (PostOf Qc mc ms free) := va_backW (hh := hh) (bytes := bytes) (maxL := maxL) (ret := ret) hM hp.1 hrc hrs hfr hlo hws hcw (fun a' U hW => word_at hW (Or.inl (by first | rfl | simp [Cond.onTables, Cond.keeps, Cond.steady])) hini)
  obtain ⟨hx, hb, hml, ho, -⟩ := S
  intro T hT X
  obtain ⟨v, vm₁, ⟨U', l2, c2, s2⟩, hW₁, X', ⟨g', mk, t, L, e1, e2, hq, h1, hL, h2, h3⟩, st⟩ := vx_callSW X hx (hh := hh) (bytes := bytes) (maxL := maxL) (ret := ret) ho hl hstt hini hcode hy hK hg (hsize.trans hml.symm) (argsL := As) (rest := rest) (fun sig h => hn.trans (hlen sig h)) hstack hW (by rw [hb]; exact hdg)
    (fun vm₁ hW₁ => ⟨hf.1, hf.2, hp.2 (T.setVm vm₁) hT hW₁⟩)
  dsimp only [Pt.U, Pt.locs, Pt.cells, Pt.slots] at X' e1 e2 h1 h2 h3 st
  subst h1; subst h2; subst h3
  exact ⟨v, (T.setVm vm₁).calling g' mk As.toArray, t, U', L, hT, X', hL, e1, e2, hq, st⟩
/-- not caught here, past rows that name other classes: it goes on to the caller -/
theorem vx_outP {p : Program} {l : Launch} {e : Env} {R : Room} {s : State} {m : MethodId} {args : Array Value} {below : List Frame} {meth : Method} {c : Code} {H : Heap} {locs : List Loc} {cells slots : Nat} {free : Addr → Prop} {ls : Array Slot} {rest : List Value} {Qc : Array Value → State → Outcome → State → Prop} {XC : String → State → State → Prop}
    {pc : Nat} {own E : String} {ce : Cell} {q : Addr} {mc ms : Nat} (hown : s.vm.findClass own = some m.cls) (hlocks : meth.locks = false)
    (hpass : ∀ z ∈ c.exceptionTable.toList, covers z pc = false ∨ (z.catchType ≠ 0 ∧ ∃ nm : String, (Cond.classLink own z.catchType nm).before args s = true ∧ va_Nc E nm s)) (hcell : H[q]? = some ce) (hv : ce.vm = .none) (hcl : s.vm.findClass E = some ce.cls)
    (hx : ∀ t : State, t.heap = H → s.vm.Alike t.vm → XC E s t) (hf : ∀ z ∈ locs, free z.base) (hc : cells ≤ mc) (hs : slots ≤ ms) :
    vx_W p l e R s m args below meth c H locs cells slots (vx_MQ below Qc XC args s mc ms free) (F0 m pc ls rest) q := by
  intro T hT X
  have hpl : e.platform.magicAccessors = ({} : Platform).magicAccessors := by rw [X.admits.platform]
  obtain ⟨vm', hW', X', st⟩ := X.outThrough hlocks q (g := F0 m pc ls rest) rfl rfl rfl (cell := ce) (by rw [hT]; exact hcell) (by rw [hv]; rfl)
    (by obtain ⟨k9, h9, -⟩ := Vm.findClass_spec hcl; exact ⟨k9, h9⟩) (fun z hz => by
      rcases hpass z hz with h | ⟨hz0, nm, hl1, hn1⟩
      · exact Or.inl h
      · obtain ⟨c6, hc6, hcl6⟩ := Cond.classLink_spec hown hl1 e.platform hpl
        obtain ⟨a8, b8, h1, h2, h3⟩ := hn1
        cases Option.some.inj (h1.symm.trans hcl)
        cases Option.some.inj (h2.symm.trans hc6)
        exact Or.inr ⟨hz0, _, hcl6, h3⟩)
  obtain ⟨g₀, hfr⟩ := X'.frames_eq
  have hcell9 : ((T.setVm vm').setFrames (.throwing q :: below)).heap[q]? = some ce := by
    show T.heap[q]? = some ce
    rw [hT]; exact hcell
  have hend : Ended ((T.setVm vm').setFrames (.throwing q :: below)) below (.threw q) := State.frames_setFrames _ (State.cur_lt_of_frames hfr)
  refine ⟨(T.setVm vm').setFrames (.throwing q :: below), ?_, .threw q, X'.here.running, hend, Or.inr ⟨q, rfl, E, ce, locs, hx _ hT (X'.ends _).1.alike, hcell9, hv, hcl, (X'.ends _).1, (X'.ends _).2.mono hc hs, hf⟩⟩
  rw [X.pushThrowing_eq]
  exact st
/-- a thing of a world lies in the heap -/
theorem vx_lt {D : va_G} {cl : List vw_C} {ws : va_W} {H1 : Heap} (h : va_P D cl ws H1) {k : Nat} {q : Nat × va_E} (hk : ws[k]? = some q) : q.1 < H1.size := (h k q hk).lt
end VXS
/-! ===== END ===== -/
/-! ===== BEGIN methods with a table of their own: called by a name, returning or throwing ===== -/
section VXH
/-! vx_backW, vx_callVX, vx_callSX, vx_callVW, vx_runVW, vx_runVX, vx_runSX, vx_ofWH follow the same proofs as their sisters above (Free/Laws.lean, Shelf42/LK1.lean); vx_outP calls Shelf42/NT130.lean (outThrough). -/
section
variable {l : Launch} {R : Room} {p : Program} {e : Env} {below : List Frame} {s : State} {sargs : Array Value} {y : MethodName} {len W9 : Nat}
theorem vx_backW {ws : List Cond} {rm : Room} {Pc : Array Value → State → Prop} {Qc : Array Value → State → Outcome → State → Prop} {XC : String → State → State → Prop} {mc ms : Nat} {free : Addr → Prop} {bytes : ByteArray} {maxL : Nat} {ret : Option FieldType} {hh : List (Nat × Nat × Nat × Nat)}
    (hM : vx_Met l y ws rm Pc Qc XC mc ms free) (hblind : FrameBlind Pc) (hrc : rm.cells = mc) (hrs : rm.slots = ms)
    (hframes : rm.frames + 1 ≤ R.frames) (hlocals : W9 + (maxL + 11) + rm.locals ≤ R.locals)
    (hws : ∀ w ∈ ws, ∀ a' U, s.WarmedH U.vm → w.before a' U = true) (hcode : Cond.codeWith y bytes maxL ret hh ∈ ws) (hinit : ∀ a' U, s.WarmedH U.vm → (Cond.initialized y.cls).before a' U = true) :
    vx_Back l R p e below s sargs y len W9 (PreOf R mc ms Pc) (PostOf Qc mc ms free) (vx_Post XC mc ms free) := by
  intro m meth c A g ig mk a X hg hsize hdg hW hn hp
  have h1 : (headSpec ws rm).pre.before a A.U = true := atoms_intro fun w hw => hws w hw _ _ X.warmed
  have h2 : (Cond.codeWith y bytes maxL ret hh).before a A.U = true := hws _ hcode _ _ X.warmed
  have h3 : (Cond.initialized y.cls).before a A.U = true := hinit _ _ X.warmed
  have h4 : A.cells + (headSpec ws rm).room.cells ≤ R.cells := by rw [show (headSpec ws rm).room.cells = mc from hrc]; exact hp.1
  have h5 : A.slots + (headSpec ws rm).room.slots ≤ R.slots := by rw [show (headSpec ws rm).room.slots = ms from hrs]; exact hp.2.1
  have hPc : Pc a (A.U.calling g mk a) := hblind _ _ _ _ hp.2.2
  obtain ⟨U, Ls, c0, s0⟩ := A
  dsimp only [Pt.U, Pt.locs, Pt.cells, Pt.slots] at h1 h2 h3 h4 h5 X hn hPc ⊢
  obtain ⟨m9, methY, cY, hn9, hmY, hcY, -, hlY, -⟩ := Cond.codeWith_spec h2
  cases Option.some.inj (hn9.symm.trans hn)
  obtain ⟨kY, hkY, -⟩ := className_of_methodNamed hn
  have hinitY : kY.init = .initialized := Cond.initialized_spec (findClass_of_methodNamed hn) hkY h3
  have h : At U g.method c below := by rw [hg]; exact X.here
  have hlocals9 : W9 + (maxL + 11) + (headSpec ws rm).room.locals ≤ R.locals := hlocals
  have happ : (headSpec ws rm).appliesLoose y e.platform (U.calling g mk a) = true :=
    Spec.appliesLoose_calling (g := g) h hdg hn hkY hinitY
      (X.room_calling (g := g) (R' := (headSpec ws rm).room) hsize hmY hcY hframes (by rw [hlY]; omega) h4 h5) h1
  obtain ⟨mid, hmid⟩ := h.above
  have hfr : (U.setTop g).frames = (.java g :: mid) ++ below := by rw [State.frames_setTop' g h.top, hmid]; rfl
  obtain ⟨o, s₂, hsteps, -, hend, hq⟩ := Steps.callFree hM p X.admits X.cas X.clock (acts := []) hfr happ hPc trivial
  have hq' : vx_Q Qc XC mc ms free a (U.calling g mk a) o s₂ := hq
  rw [State.frames_setTop' g h.top] at hend
  obtain ⟨g₀, hg0⟩ := Option.isSome_iff_exists.mp h.top
  obtain ⟨r, hr⟩ := State.topJava?_eq_some.mp hg0
  have hr' : (({ U with heap := s₂.heap, slotsUsed := s₂.slotsUsed } : State).setVm s₂.vm).frames = .java g₀ :: r := hr
  rcases hq' with ⟨hqc, L, hfe, hL⟩ | ⟨q, rfl, E, ce, L, hx, hce, hcv, hcl, hW₂, hsm, hL⟩
  · obtain ⟨⟨v, rfl⟩, hW₂, e2, q2, q3, q4, q5, q6⟩ := id hfe
    have e3 : s₂ = ({ (U.calling g mk a).setFrames s₂.frames with heap := s₂.heap, slotsUsed := s₂.slotsUsed } : State).setVm s₂.vm := by
      have : s₂ = ({ s₂ with vm := (U.calling g mk a).vm } : State).setVm s₂.vm := rfl
      rw [e2] at this
      exact this
    obtain ⟨c₂, i₂, len₂, hc₂, hd₂, hf₂⟩ := hend
    have hW' : U.WarmedH s₂.vm := hW₂
    have hcc : c₂ = c := by
      have h1 : s₂.code? g.method = U.code? g.method := by
        rw [State.code?_eq, State.code?_eq, hW'.alike.method?]
      exact Option.some.inj (hc₂.symm.trans (h1.trans h.code))
    subst hcc
    have hlen : len₂ = len := by rw [hdg] at hd₂; cases hd₂; rfl
    subst hlen
    have hs₂ : s₂ = (({ U with heap := s₂.heap, slotsUsed := s₂.slotsUsed } : State).setVm s₂.vm).setTop { g with pc := g.pc + len₂, stack := v.toList ++ g.stack } := by
      refine e3.trans ?_
      rw [hf₂, State.calling_eq h.top, State.setFrames_setFrames, State.setTop_of_frames _ hr', hr]
      rfl
    have hsame : U.sameButNew ({ U with heap := s₂.heap, slotsUsed := s₂.slotsUsed } : State) L mc ms := by
      refine ⟨?_, q2, q3, q4, q5, q6⟩
      obtain ⟨t, ht, -⟩ := State.frames_cons hr
      show ({ U with heap := s₂.heap, slotsUsed := s₂.slotsUsed } : State) = { U.setFrames U.frames with heap := s₂.heap, slotsUsed := s₂.slotsUsed }
      rw [State.setFrames_self ht]
    subst hg
    refine Or.inl ⟨v, ⟨(({ U with heap := s₂.heap, slotsUsed := s₂.slotsUsed } : State).setVm s₂.vm), Ls ++ L, c0 + mc, s0 + ms⟩,
      ⟨X.admits, X.cas, X.clock, X.frames, X.room, X.hears, X.method, X.code, (X.here.setHeapUsed s₂.heap s₂.slotsUsed).setVm hW'.alike, X.tail, State.WarmedH.trans X.warmed hW', X.limits, X.bytes, X.same.trans (hsame.setVm s.vm)⟩,
      ⟨g, mk, s₂, L, rfl, rfl, hqc, rfl, hL, rfl, rfl⟩, ?_⟩
    show Steps p.tables e below _ ((({ U with heap := s₂.heap, slotsUsed := s₂.slotsUsed } : State).setVm s₂.vm).setTop { g with pc := g.pc + len₂, stack := v.toList ++ g.stack })
    rw [← hs₂]
    exact hsteps
  · obtain ⟨e2, q2, q3, q4, q5, q6⟩ := id hsm
    have e3 : s₂ = ({ (U.calling g mk a).setFrames s₂.frames with heap := s₂.heap, slotsUsed := s₂.slotsUsed } : State).setVm s₂.vm := by
      have : s₂ = ({ s₂ with vm := (U.calling g mk a).vm } : State).setVm s₂.vm := rfl
      rw [e2] at this
      exact this
    have hf₂ : s₂.frames = .throwing q :: .java g :: U.frames.tail := hend
    have hW' : U.WarmedH s₂.vm := hW₂
    have hs₂ : s₂ = ((({ U with heap := s₂.heap, slotsUsed := s₂.slotsUsed } : State).setVm s₂.vm).setTop g).pushFrame (.throwing q) := by
      refine e3.trans ?_
      rw [hf₂, State.calling_eq h.top, State.setFrames_setFrames, State.pushFrame, State.frames_setTop _ hr', State.setTop_of_frames _ hr', State.setFrames_setFrames, hr]
      rfl
    have hsame : U.sameButNew ({ U with heap := s₂.heap, slotsUsed := s₂.slotsUsed } : State) L mc ms := by
      refine ⟨?_, q2, q3, q4, q5, q6⟩
      obtain ⟨t, ht, -⟩ := State.frames_cons hr
      show ({ U with heap := s₂.heap, slotsUsed := s₂.slotsUsed } : State) = { U.setFrames U.frames with heap := s₂.heap, slotsUsed := s₂.slotsUsed }
      rw [State.setFrames_self ht]
    subst hg
    refine Or.inr ⟨q, ⟨(({ U with heap := s₂.heap, slotsUsed := s₂.slotsUsed } : State).setVm s₂.vm), Ls ++ L, c0 + mc, s0 + ms⟩,
      ⟨X.admits, X.cas, X.clock, X.frames, X.room, X.hears, X.method, X.code, (X.here.setHeapUsed s₂.heap s₂.slotsUsed).setVm hW'.alike, X.tail, State.WarmedH.trans X.warmed hW', X.limits, X.bytes, X.same.trans (hsame.setVm s.vm)⟩,
      ⟨g, mk, s₂, L, E, ce, rfl, rfl, hx, hce, hcv, hcl, rfl, hL, rfl, rfl⟩, ?_⟩
    show Steps p.tables e below _ (((({ U with heap := s₂.heap, slotsUsed := s₂.slotsUsed } : State).setVm s₂.vm).setTop g).pushFrame (.throwing q))
    rw [← hs₂]
    exact hsteps
end
variable {p : Program} {l : Launch} {e : Env} {R : Room} {s : State} {m : MethodId} {args : Array Value} {below : List Frame} {meth : Method} {c : Code} {T : State} {H : Heap} {locs : List Loc} {cells slots : Nat}
theorem vx_callVX (X : Stand p l e R s m args below meth c T locs cells slots) (hexec : p.tables.exec = Jvm.exec) {own C : String} {index : Nat} {y : MethodName} {bytes : ByteArray} {maxL : Nat} {ret : Option FieldType} {hh : List (Nat × Nat × Nat × Nat)}
    (hown : s.vm.findClass own = some m.cls) (hlink : (Cond.methodLink own index y).before args s = true) (hinst : (Cond.instanceMethod y).before args s = true) (hsel : (Cond.selects C y y).before args s = true)
    (hcode : (Cond.codeWith y bytes maxL ret hh).before args s = true) (hy : y.cls ≠ "java/lang/invoke/MethodHandle" ∧ y.cls ≠ "java/lang/invoke/VarHandle")
    {W9 : Nat} {Pre : Pt → Array Value → Prop} {Post : Pt → Array Value → Option Value → Pt → Prop} {PostX : Pt → Array Value → Addr → Pt → Prop} (hK : vx_Back l R p e below s args y 3 W9 Pre Post PostX)
    {b : Addr} {cellB : Cell} (hcell : T.heap[b]? = some cellB) (hobj : cellB.vm.isStatics = false) (hcls : s.vm.findClass C = some cellB.cls)
    {g : JFrame} (hg : g.method = m) (hsize : g.locals.size = c.maxLocals) {argsL rest : List Value} (hlen : ∀ sig, parseMethodDescriptor y.desc = some sig → argsL.length = sig.parameters.length)
    (hstack : g.stack = argsL.reverse ++ .ref b :: rest) (hW : 2 * g.monitorRoom + (rest.map fun v => v.category).sum ≤ W9) (hdg : decode c.code g.pc = .ok (.invokevirtual index, 3))
    (hpre : ∀ vm₁, s.WarmedH vm₁ → Pre ⟨T.setVm vm₁, locs, cells, slots⟩ (Value.ref b :: argsL).toArray) :
    (∃ (v : Option Value) (vm₁ : Vm) (B : Pt), s.WarmedH vm₁ ∧ Stand p l e R s m args below meth c B.U B.locs B.cells B.slots ∧ Post ⟨T.setVm vm₁, locs, cells, slots⟩ (Value.ref b :: argsL).toArray v B ∧
      ∀ target, Steps p.tables e below (B.U.setTop { g with pc := g.pc + 3, stack := v.toList ++ rest }) target → Steps p.tables e below (T.setTop g) target) ∨
    (∃ (q : Addr) (vm₁ : Vm) (B : Pt), s.WarmedH vm₁ ∧ Stand p l e R s m args below meth c B.U B.locs B.cells B.slots ∧ PostX ⟨T.setVm vm₁, locs, cells, slots⟩ (Value.ref b :: argsL).toArray q B ∧
      Steps p.tables e below (T.setTop g) ((B.U.setTop { g with stack := rest }).pushFrame (.throwing q))) := by
  obtain ⟨mk, methM, hnamed, hmethM, hstM, habM⟩ := Cond.instanceMethod_spec hinst
  obtain ⟨m8, methM', cM, hn8, hmethM', -, -, -, -, -, -, hsigM⟩ := Cond.codeWith_spec hcode
  cases Option.some.inj (hn8.symm.trans hnamed)
  cases hmethM.symm.trans hmethM'
  obtain ⟨c2, r2, m2, q1, q2, q3, q4, kP, hkP, hkPi⟩ := Cond.selects_spec hsel
  cases hcls.symm.trans q1
  cases (State.methodFound?_of_named hnamed hy).symm.trans q2
  cases hnamed.symm.trans q3
  have hselP : selectMethod e.platform s.vm cellB.cls mk = .method mk := by rw [Launch.admits_selectMethod X.admits]; exact q4
  obtain ⟨vm₁, X₁, hstep₁⟩ := X.invokevirtual hexec hown hlink hnamed hmethM hstM hkP hkPi hy (a := b) (cell := cellB) hcell
    (fun z h => by rw [h] at hobj; cases hobj) hselP hmethM habM hkP hkPi (g := g) hg (argsL := argsL) (rest := rest) (hlen _ hsigM) hstack hdg
  rcases hK m meth c ⟨T.setVm vm₁, locs, cells, slots⟩ { g with stack := rest } (.invokevirtual index) mk (Value.ref b :: argsL).toArray X₁ hg hsize hdg hW (X₁.named hnamed) (hpre vm₁ X₁.warmed) with ⟨v, B, X', hpost, hsteps⟩ | ⟨q, B, X', hpost, hsteps⟩
  · exact Or.inl ⟨v, vm₁, B, X₁.warmed, X', hpost, fun target h => hstep₁ _ fun acts => by rw [doInvoke_state]; exact hsteps.trans h⟩
  · exact Or.inr ⟨q, vm₁, B, X₁.warmed, X', hpost, hstep₁ _ fun acts => by rw [doInvoke_state]; exact hsteps⟩
theorem vx_callSX (X : Stand p l e R s m args below meth c T locs cells slots) (hexec : p.tables.exec = Jvm.exec) {own : String} {index : Nat} {y : MethodName} {bytes : ByteArray} {maxL : Nat} {ret : Option FieldType} {hh : List (Nat × Nat × Nat × Nat)}
    (hown : s.vm.findClass own = some m.cls) (hlink : (Cond.methodLink own index y).before args s = true) (hstat : (Cond.static y).before args s = true) (hinit : (Cond.initialized y.cls).before args s = true)
    (hcode : (Cond.codeWith y bytes maxL ret hh).before args s = true) (hy : y.cls ≠ "java/lang/invoke/MethodHandle" ∧ y.cls ≠ "java/lang/invoke/VarHandle")
    {W9 : Nat} {Pre : Pt → Array Value → Prop} {Post : Pt → Array Value → Option Value → Pt → Prop} {PostX : Pt → Array Value → Addr → Pt → Prop} (hK : vx_Back l R p e below s args y 3 W9 Pre Post PostX)
    {g : JFrame} (hg : g.method = m) (hsize : g.locals.size = c.maxLocals) {argsL rest : List Value} (hlen : ∀ sig, parseMethodDescriptor y.desc = some sig → argsL.length = sig.parameters.length)
    (hstack : g.stack = argsL.reverse ++ rest) (hW : 2 * g.monitorRoom + (rest.map fun v => v.category).sum ≤ W9) (hdg : decode c.code g.pc = .ok (.invokestatic index, 3))
    (hpre : ∀ vm₁, s.WarmedH vm₁ → Pre ⟨T.setVm vm₁, locs, cells, slots⟩ argsL.toArray) :
    (∃ (v : Option Value) (vm₁ : Vm) (B : Pt), s.WarmedH vm₁ ∧ Stand p l e R s m args below meth c B.U B.locs B.cells B.slots ∧ Post ⟨T.setVm vm₁, locs, cells, slots⟩ argsL.toArray v B ∧
      ∀ target, Steps p.tables e below (B.U.setTop { g with pc := g.pc + 3, stack := v.toList ++ rest }) target → Steps p.tables e below (T.setTop g) target) ∨
    (∃ (q : Addr) (vm₁ : Vm) (B : Pt), s.WarmedH vm₁ ∧ Stand p l e R s m args below meth c B.U B.locs B.cells B.slots ∧ PostX ⟨T.setVm vm₁, locs, cells, slots⟩ argsL.toArray q B ∧
      Steps p.tables e below (T.setTop g) ((B.U.setTop { g with stack := rest }).pushFrame (.throwing q))) := by
  obtain ⟨mk, methM, cM, hnamed, hmethM, -, -, -, -, -, -, hsigM⟩ := Cond.codeWith_spec hcode
  have hstatic : methM.isStatic = true := Cond.static_spec hnamed hmethM hstat
  obtain ⟨kP, hkP, -⟩ := className_of_methodNamed hnamed
  have hinitP : kP.init = .initialized := Cond.initialized_spec (findClass_of_methodNamed hnamed) hkP hinit
  obtain ⟨vm₁, X₁, hstep₁⟩ := X.invokestatic hexec hown hlink hnamed hmethM hstatic hkP hinitP hy (g := g) hg (argsL := argsL) (rest := rest) (hlen _ hsigM) hstack hdg
  rcases hK m meth c ⟨T.setVm vm₁, locs, cells, slots⟩ { g with stack := rest } (.invokestatic index) mk argsL.toArray X₁ hg hsize hdg hW (X₁.named hnamed) (hpre vm₁ X₁.warmed) with ⟨v, B, X', hpost, hsteps⟩ | ⟨q, B, X', hpost, hsteps⟩
  · exact Or.inl ⟨v, vm₁, B, X₁.warmed, X', hpost, fun target h => hstep₁ _ fun acts => by rw [doInvoke_state]; exact hsteps.trans h⟩
  · exact Or.inr ⟨q, vm₁, B, X₁.warmed, X', hpost, hstep₁ _ fun acts => by rw [doInvoke_state]; exact hsteps⟩
theorem vx_callVW (X : Stand p l e R s m args below meth c T locs cells slots) (hexec : p.tables.exec = Jvm.exec) {own C : String} {index : Nat} {y : MethodName} {bytes : ByteArray} {maxL : Nat} {ret : Option FieldType} {hh : List (Nat × Nat × Nat × Nat)}
    (hown : s.vm.findClass own = some m.cls) (hlink : (Cond.methodLink own index y).before args s = true) (hinst : (Cond.instanceMethod y).before args s = true) (hsel : (Cond.selects C y y).before args s = true)
    (hcode : (Cond.codeWith y bytes maxL ret hh).before args s = true) (hy : y.cls ≠ "java/lang/invoke/MethodHandle" ∧ y.cls ≠ "java/lang/invoke/VarHandle")
    {W9 : Nat} {Pre : Pt → Array Value → Prop} {Post : Pt → Array Value → Option Value → Pt → Prop} (hK : Back l R p e below s args y 3 W9 Pre Post)
    {b : Addr} {cellB : Cell} (hcell : T.heap[b]? = some cellB) (hobj : cellB.vm.isStatics = false) (hcls : s.vm.findClass C = some cellB.cls)
    {g : JFrame} (hg : g.method = m) (hsize : g.locals.size = c.maxLocals) {argsL rest : List Value} (hlen : ∀ sig, parseMethodDescriptor y.desc = some sig → argsL.length = sig.parameters.length)
    (hstack : g.stack = argsL.reverse ++ .ref b :: rest) (hW : 2 * g.monitorRoom + (rest.map fun v => v.category).sum ≤ W9) (hdg : decode c.code g.pc = .ok (.invokevirtual index, 3))
    (hpre : ∀ vm₁, s.WarmedH vm₁ → Pre ⟨T.setVm vm₁, locs, cells, slots⟩ (Value.ref b :: argsL).toArray) :
    ∃ (v : Option Value) (vm₁ : Vm) (B : Pt), s.WarmedH vm₁ ∧ Stand p l e R s m args below meth c B.U B.locs B.cells B.slots ∧ Post ⟨T.setVm vm₁, locs, cells, slots⟩ (Value.ref b :: argsL).toArray v B ∧
      ∀ target, Steps p.tables e below (B.U.setTop { g with pc := g.pc + 3, stack := v.toList ++ rest }) target → Steps p.tables e below (T.setTop g) target := by
  obtain ⟨mk, methM, hnamed, hmethM, hstM, habM⟩ := Cond.instanceMethod_spec hinst
  obtain ⟨m8, methM', cM, hn8, hmethM', -, -, -, -, -, -, hsigM⟩ := Cond.codeWith_spec hcode
  cases Option.some.inj (hn8.symm.trans hnamed)
  cases hmethM.symm.trans hmethM'
  obtain ⟨c2, r2, m2, q1, q2, q3, q4, kP, hkP, hkPi⟩ := Cond.selects_spec hsel
  cases hcls.symm.trans q1
  cases (State.methodFound?_of_named hnamed hy).symm.trans q2
  cases hnamed.symm.trans q3
  have hselP : selectMethod e.platform s.vm cellB.cls mk = .method mk := by rw [Launch.admits_selectMethod X.admits]; exact q4
  obtain ⟨vm₁, X₁, hstep₁⟩ := X.invokevirtual hexec hown hlink hnamed hmethM hstM hkP hkPi hy (a := b) (cell := cellB) hcell
    (fun z h => by rw [h] at hobj; cases hobj) hselP hmethM habM hkP hkPi (g := g) hg (argsL := argsL) (rest := rest) (hlen _ hsigM) hstack hdg
  obtain ⟨v, B, X', hpost, hsteps⟩ := hK m meth c ⟨T.setVm vm₁, locs, cells, slots⟩ { g with stack := rest } (.invokevirtual index) mk (Value.ref b :: argsL).toArray X₁ hg hsize hdg hW (X₁.named hnamed) (hpre vm₁ X₁.warmed)
  exact ⟨v, vm₁, B, X₁.warmed, X', hpost, fun target h => hstep₁ _ fun acts => by rw [doInvoke_state]; exact hsteps.trans h⟩
abbrev vx_CVW (R : Room) (s : State) (args : Array Value) (own C : String) (index : Nat) (y : MethodName) (bytes : ByteArray) (maxL : Nat) (ret : Option FieldType) (hh : List (Nat × Nat × Nat × Nat)) (ws : List Cond) (rm : Room) (mc ms n : Nat) : Prop :=
  (rm.cells = mc ∧ rm.slots = ms ∧ rm.frames + 1 ≤ R.frames ∧ 8 + (maxL + 11) + rm.locals ≤ R.locals ∧ (∀ w ∈ ws, ∀ (a' : Array Value) (U : State), s.WarmedH U.vm → w.before a' U = true) ∧ Cond.codeWith y bytes maxL ret hh ∈ ws) ∧
  (Cond.codeWith y bytes maxL ret hh).before args s = true ∧ (Cond.initialized y.cls).before args s = true ∧ (y.cls ≠ "java/lang/invoke/MethodHandle" ∧ y.cls ≠ "java/lang/invoke/VarHandle") ∧
  (∀ sig, parseMethodDescriptor y.desc = some sig → n = sig.parameters.length) ∧ (Cond.methodLink own index y).before args s = true ∧ (Cond.instanceMethod y).before args s = true ∧ (Cond.selects C y y).before args s = true
theorem vx_cwVW {own C : String} {index maxL mc ms : Nat} {y : MethodName} {bytes : ByteArray} {ret : Option FieldType} {hh : List (Nat × Nat × Nat × Nat)} {Ts ws ws' : List Cond} {rm : Room} (n : Nat) (ht : ∀ w ∈ Ts, w.before args s = true) (hT : GoodIn Ts (wsV own index C y ws)) (hw : ws = Cond.codeWith y bytes maxL ret hh :: ws') (hrc : rm.cells = mc) (hrs : rm.slots = ms)
    (hd : y.cls = C ∧ y.cls ≠ "java/lang/invoke/MethodHandle" ∧ y.cls ≠ "java/lang/invoke/VarHandle" ∧ (parseMethodDescriptor y.desc).map (fun d => d.parameters.length) = some n) (hR : rm.frames + 1 ≤ R.frames ∧ 8 + (maxL + 11) + rm.locals ≤ R.locals) :
    vx_CVW R s args own C index y bytes maxL ret hh ws rm mc ms n := by
  obtain ⟨hC, hd⟩ := hd
  subst hC
  have ok : ∀ w ∈ wsV own index y.cls y ws, w.before args s = true := fun w h => ht w (hT w h).1
  have hG : GoodIn Ts ws := fun w h => hT w (by unfold wsV; exact List.mem_append_right _ h)
  have hc : Cond.codeWith y bytes maxL ret hh ∈ ws := by rw [hw]; exact List.mem_cons_self
  refine ⟨⟨hrc, hrs, hR.1, hR.2, pay_in ht hG, hc⟩, ht _ (hG _ hc).1, ok _ (by simp [wsV]), ⟨hd.1, hd.2.1⟩, fun sig h => ?_, ok _ (by simp [wsV]), ok _ (by simp [wsV]), ok _ (by simp [wsV])⟩
  have h2 := hd.2.2
  rw [h] at h2
  exact (Option.some.inj h2).symm
theorem vx_runVW {y : MethodName} {bytes cc : ByteArray} {maxL nL mc ms n index : Nat} {ret : Option FieldType} {hh : List (Nat × Nat × Nat × Nat)} {ws : List Cond} {rm : Room} {Pc : Array Value → State → Prop} {Qc : Array Value → State → Outcome → State → Prop} {free : Addr → Prop} {Ts : List Cond} {own C : String} {b : Addr} {As rest : List Value} {g : JFrame}
    (S : CallFix p m c cc nL s args Ts own) (hM : Met l y ws rm Pc Qc mc ms free) (cw : vx_CVW R s args own C index y bytes maxL ret hh ws rm mc ms n) (hp : PreV s H C b Pc As)
    (hg : g.method = m) (hn : As.length = n) (hsize : g.locals.size = nL) (hstack : g.stack = As.reverse ++ .ref b :: rest) (hW : 2 * g.monitorRoom + (rest.map fun v => v.category).sum ≤ 8) (hdg : decode cc g.pc = .ok (.invokevirtual index, 3)) (hf : cells + mc ≤ R.cells ∧ slots + ms ≤ R.slots) :
    va_Run p l e R s m args below meth c H locs cells slots mc ms g rest (Qc (Value.ref b :: As).toArray) free := by
  obtain ⟨⟨hrc, hrs, hfr, hlo, hws, hcw⟩, hcode, hini, hy, hlen, hl, hin, hse⟩ := cw
  have hK : Back l R p e below s args y 3 8 (PreOf R mc ms Pc) (PostOf Qc mc ms free) := va_backW (hh := hh) (bytes := bytes) (maxL := maxL) (ret := ret) hM hp.1 hrc hrs hfr hlo hws hcw (fun a' U hW => word_at hW (Or.inl (by first | rfl | simp [Cond.onTables, Cond.keeps, Cond.steady])) hini)
  obtain ⟨hx, hb, hml, ho, -⟩ := S
  obtain ⟨-, ⟨cellB, hcB, hoB, hclB⟩, hPc⟩ := hp
  intro T hT X
  obtain ⟨v, vm₁, ⟨U', l2, c2, s2⟩, hW₁, X', ⟨g', mk, t, L, e1, e2, hq, h1, hL, h2, h3⟩, st⟩ := vx_callVW X hx (C := C) (hh := hh) (bytes := bytes) (maxL := maxL) (ret := ret) ho hl hin hse hcode hy hK (by rw [hT]; exact hcB) hoB hclB hg (hsize.trans hml.symm) (argsL := As) (rest := rest) (fun sig h => hn.trans (hlen sig h)) hstack hW (by rw [hb]; exact hdg)
    (fun vm₁ hW₁ => ⟨hf.1, hf.2, hPc (T.setVm vm₁) hT hW₁⟩)
  dsimp only [Pt.U, Pt.locs, Pt.cells, Pt.slots] at X' e1 e2 h1 h2 h3 st
  subst h1; subst h2; subst h3
  exact ⟨v, (T.setVm vm₁).calling g' mk (Value.ref b :: As).toArray, t, U', L, hT, X', hL, e1, e2, hq, st⟩
section
variable {y : MethodName} {bytes cc : ByteArray} {maxL nL mc ms n index : Nat} {ret : Option FieldType} {ws : List Cond} {rm : Room} {Pc : Array Value → State → Prop} {Qc : Array Value → State → Outcome → State → Prop} {XC : String → State → State → Prop} {free : Addr → Prop} {Ts : List Cond} {own C : String} {b : Addr} {As rest : List Value} {g : JFrame}
theorem vx_runVX {hh : List (Nat × Nat × Nat × Nat)} (S : CallFix p m c cc nL s args Ts own) (hM : vx_Met l y ws rm Pc Qc XC mc ms free) (cw : vx_CVW R s args own C index y bytes maxL ret hh ws rm mc ms n) (hp : PreV s H C b Pc As)
    (hg : g.method = m) (hn : As.length = n) (hsize : g.locals.size = nL) (hstack : g.stack = As.reverse ++ .ref b :: rest) (hW : 2 * g.monitorRoom + (rest.map fun v => v.category).sum ≤ 8) (hdg : decode cc g.pc = .ok (.invokevirtual index, 3)) (hf : cells + mc ≤ R.cells ∧ slots + ms ≤ R.slots) :
    vx_Run p l e R s m args below meth c H locs cells slots mc ms g rest (Qc (Value.ref b :: As).toArray) XC free := by
  obtain ⟨⟨hrc, hrs, hfr, hlo, hws, hcw⟩, hcode, hini, hy, hlen, hl, hin, hse⟩ := cw
  have hK : vx_Back l R p e below s args y 3 8 (PreOf R mc ms Pc) (PostOf Qc mc ms free) (vx_Post XC mc ms free) := vx_backW (hh := hh) (bytes := bytes) (maxL := maxL) (ret := ret) hM hp.1 hrc hrs hfr hlo hws hcw (fun a' U hW => word_at hW (Or.inl (by first | rfl | simp [Cond.onTables, Cond.keeps, Cond.steady])) hini)
  obtain ⟨hx, hb, hml, ho, -⟩ := S
  obtain ⟨-, ⟨cellB, hcB, hoB, hclB⟩, hPc⟩ := hp
  intro T hT X
  rcases vx_callVX X hx (C := C) (hh := hh) (bytes := bytes) (maxL := maxL) (ret := ret) ho hl hin hse hcode hy hK (by rw [hT]; exact hcB) hoB hclB hg (hsize.trans hml.symm) (argsL := As) (rest := rest) (fun sig h => hn.trans (hlen sig h)) hstack hW (by rw [hb]; exact hdg)
    (fun vm₁ hW₁ => ⟨hf.1, hf.2, hPc (T.setVm vm₁) hT hW₁⟩) with ⟨v, vm₁, ⟨U', l2, c2, s2⟩, hW₁, X', ⟨g', mk, t, L, e1, e2, hq, h1, hL, h2, h3⟩, st⟩ | ⟨q, vm₁, ⟨U', l2, c2, s2⟩, hW₁, X', ⟨g', mk, t, L, E, ce, e1, e2, hq, hce, hcv, hcl, h1, hL, h2, h3⟩, st⟩
  · dsimp only [Pt.U, Pt.locs, Pt.cells, Pt.slots] at X' e1 e2 h1 h2 h3 st
    subst h1; subst h2; subst h3
    exact Or.inl ⟨v, (T.setVm vm₁).calling g' mk (Value.ref b :: As).toArray, t, U', L, hT, X', hL, e1, e2, hq, st⟩
  · dsimp only [Pt.U, Pt.locs, Pt.cells, Pt.slots] at X' e1 e2 h1 h2 h3 st hcl
    subst h1; subst h2; subst h3
    exact Or.inr ⟨q, (T.setVm vm₁).calling g' mk (Value.ref b :: As).toArray, t, U', L, E, ce, hT, X', hL, e1, e2, hq, hce, hcv, vx_cls hW₁ hcl, st⟩
theorem vx_runSX {hh : List (Nat × Nat × Nat × Nat)} (S : CallFix p m c cc nL s args Ts own) (hM : vx_Met l y ws rm Pc Qc XC mc ms free) (cw : vx_CSW R s args own index y bytes maxL ret hh ws rm mc ms n) (hp : PreS s H Pc As)
    (hg : g.method = m) (hn : As.length = n) (hsize : g.locals.size = nL) (hstack : g.stack = As.reverse ++ rest) (hW : 2 * g.monitorRoom + (rest.map fun v => v.category).sum ≤ 8) (hdg : decode cc g.pc = .ok (.invokestatic index, 3)) (hf : cells + mc ≤ R.cells ∧ slots + ms ≤ R.slots) :
    vx_Run p l e R s m args below meth c H locs cells slots mc ms g rest (Qc As.toArray) XC free := by
  obtain ⟨⟨hrc, hrs, hfr, hlo, hws, hcw⟩, hcode, hini, hy, hlen, hl, hstt⟩ := cw
  have hK : vx_Back l R p e below s args y 3 8 (PreOf R mc ms Pc) (PostOf Qc mc ms free) (vx_Post XC mc ms free) := vx_backW (hh := hh) (bytes := bytes) (maxL := maxL) (ret := ret) hM hp.1 hrc hrs hfr hlo hws hcw (fun a' U hW => word_at hW (Or.inl (by first | rfl | simp [Cond.onTables, Cond.keeps, Cond.steady])) hini)
  obtain ⟨hx, hb, hml, ho, -⟩ := S
  intro T hT X
  rcases vx_callSX X hx (hh := hh) (bytes := bytes) (maxL := maxL) (ret := ret) ho hl hstt hini hcode hy hK hg (hsize.trans hml.symm) (argsL := As) (rest := rest) (fun sig h => hn.trans (hlen sig h)) hstack hW (by rw [hb]; exact hdg)
    (fun vm₁ hW₁ => ⟨hf.1, hf.2, hp.2 (T.setVm vm₁) hT hW₁⟩) with ⟨v, vm₁, ⟨U', l2, c2, s2⟩, hW₁, X', ⟨g', mk, t, L, e1, e2, hq, h1, hL, h2, h3⟩, st⟩ | ⟨q, vm₁, ⟨U', l2, c2, s2⟩, hW₁, X', ⟨g', mk, t, L, E, ce, e1, e2, hq, hce, hcv, hcl, h1, hL, h2, h3⟩, st⟩
  · dsimp only [Pt.U, Pt.locs, Pt.cells, Pt.slots] at X' e1 e2 h1 h2 h3 st
    subst h1; subst h2; subst h3
    exact Or.inl ⟨v, (T.setVm vm₁).calling g' mk As.toArray, t, U', L, hT, X', hL, e1, e2, hq, st⟩
  · dsimp only [Pt.U, Pt.locs, Pt.cells, Pt.slots] at X' e1 e2 h1 h2 h3 st hcl
    subst h1; subst h2; subst h3
    exact Or.inr ⟨q, (T.setVm vm₁).calling g' mk As.toArray, t, U', L, E, ce, hT, X', hL, e1, e2, hq, hce, hcv, vx_cls hW₁ hcl, st⟩
end
end VXH
theorem vx_ofWH {l : Launch} {y : MethodName} {ws ws' : List Cond} {rm : Room} {Pc : Array Value → State → Prop} {Qc : Array Value → State → Outcome → State → Prop} {XC : String → State → State → Prop} {mc ms : Nat} {free : Addr → Prop} {cc : ByteArray} {maxL : Nat} {ret : Option FieldType} {hh : List (Nat × Nat × Nat × Nat)}
    (hy : plainName y.cls = true) (hw : ws = Cond.codeWith y cc maxL ret hh :: ws')
    (body : ∀ p e s m args below meth c s₁, BodyLoose p l y (headSpec ws rm) cc maxL ret e s m args below meth c s₁ → c.maxLocals = maxL → Pc args s →
      W p l e (headSpec ws rm).room s m args below meth c s.heap [] 0 0 (vx_MQ below Qc XC args s mc ms free) (entryFrame m args maxL)) : vx_Met l y ws rm Pc Qc XC mc ms free := by
  refine MetFree.of_bodyS (code := cc) (maxLocals := maxL) (ret := ret) hy ?_ ?_
  · intro args s m h hn
    obtain ⟨m9, meth, c, hn9, h1, h2, h3, h4, -, h5, h6, -⟩ := Cond.codeWith_spec (atoms_spec (ws := ws) h _ (by rw [hw]; exact List.mem_cons_self))
    cases hn.symm.trans hn9
    exact ⟨meth, c, h1, h2, h3, h4, h5, h6⟩
  · intro p e s m args below meth c s₁ B hml hP _
    have hh0 : s₁.heap = s.heap := by rw [B.state]; rfl
    obtain ⟨t, a1, o, b1, b2, b3⟩ := body p e s m args below meth c s₁ B hml hP s₁ hh0 (Stand.of_body B)
    exact ⟨t, o, a1, b1, b2, b3⟩
/-! ===== END ===== -/
end
section
def RX0 : String := "StandTugs$Aircraft"
def TX0 : u_T := fun k => match k with
  | 0 => ("StandTugs$Aircraft", "span", "I", false)
  | 1 => ("StandTugs$Aircraft", "weight", "I", false)
  | 2 => ("StandTugs$Aircraft", "comes", "I", false)
  | 3 => ("StandTugs$Aircraft", "leaves", "I", false)
  | 4 => ("StandTugs$Aircraft", "passengers", "I", false)
  | 5 => ("StandTugs$Aircraft", "place", "I", false)
  | 6 => ("StandTugs$Aircraft", "stand", "I", false)
  | 7 => ("StandTugs$Aircraft", "delay", "I", false)
  | 8 => ("StandTugs$Aircraft", "minutes", "I", false)
  | _ => ("StandTugs$Aircraft", "buses", "I", false)
def tyX0 : Nat → FieldType := fun k => match k with
  | 0 => .int
  | 1 => .int
  | 2 => .int
  | 3 => .int
  | 4 => .int
  | 5 => .int
  | 6 => .int
  | 7 => .int
  | 8 => .int
  | _ => .int
theorem nmX0 : ∀ a, a < 10 → ∀ b, b < 10 → a ≠ b → (TX0 a).2.1 ≠ (TX0 b).2.1 := by decide +kernel
theorem tyX0_ok : ∀ k, k < 10 → parseFieldDescriptor (TX0 k).2.2.1 = some (tyX0 k) := by decide +kernel
abbrev cX0_init : ByteArray := prog_2_method_1_code
def yX0_init : MethodName := ⟨RX0, "<init>", "()V"⟩
abbrev cX0_tell : ByteArray := prog_2_method_2_code
def yX0_tell : MethodName := ⟨RX0, "tell", "(IIII)V"⟩
abbrev cX0_copyFrom : ByteArray := prog_2_method_3_code
def yX0_copyFrom : MethodName := ⟨RX0, "copyFrom", "(LStandTugs$Aircraft;)V"⟩
abbrev cX0_isOnStandOrBay : ByteArray := prog_2_method_4_code
def yX0_isOnStandOrBay : MethodName := ⟨RX0, "isOnStandOrBay", "()Z"⟩
abbrev cX0_takeBuses : ByteArray := prog_2_method_5_code
def yX0_takeBuses : MethodName := ⟨RX0, "takeBuses", "()V"⟩
abbrev cX0_answer : ByteArray := prog_2_method_6_code
def yX0_answer : MethodName := ⟨RX0, "answer", "(I)I"⟩
def RX1 : String := "StandTugs$Field"
def TX1 : u_T := fun k => match k with
  | 0 => ("StandTugs$Field", "stands", "[LStandTugs$Stand;", true)
  | 1 => ("StandTugs$Field", "tugs", "[LStandTugs$Tug;", true)
  | 2 => ("StandTugs$Field", "aircraft", "[LStandTugs$Aircraft;", true)
  | 3 => ("StandTugs$Field", "log", "LStandTugs$Log;", true)
  | 4 => ("StandTugs$Field", "standCount", "I", false)
  | 5 => ("StandTugs$Field", "tugCount", "I", false)
  | 6 => ("StandTugs$Field", "aircraftCount", "I", false)
  | 7 => ("StandTugs$Field", "minute", "I", false)
  | 8 => ("StandTugs$Field", "curfewBegin", "I", false)
  | _ => ("StandTugs$Field", "curfewEnd", "I", false)
def tyX1 : Nat → FieldType := fun k => match k with
  | 0 => .array (.object "StandTugs$Stand")
  | 1 => .array (.object "StandTugs$Tug")
  | 2 => .array (.object "StandTugs$Aircraft")
  | 3 => .object "StandTugs$Log"
  | 4 => .int
  | 5 => .int
  | 6 => .int
  | 7 => .int
  | 8 => .int
  | _ => .int
theorem nmX1 : ∀ a, a < 10 → ∀ b, b < 10 → a ≠ b → (TX1 a).2.1 ≠ (TX1 b).2.1 := by decide +kernel
theorem tyX1_ok : ∀ k, k < 10 → parseFieldDescriptor (TX1 k).2.2.1 = some (tyX1 k) := by decide +kernel
abbrev cX1_init : ByteArray := prog_3_method_1_code
def yX1_init : MethodName := ⟨RX1, "<init>", "()V"⟩
abbrev cX1_build : ByteArray := prog_3_method_2_code
def yX1_build : MethodName := ⟨RX1, "build", "(II)V"⟩
abbrev cX1_restart : ByteArray := prog_3_method_3_code
def yX1_restart : MethodName := ⟨RX1, "restart", "()V"⟩
abbrev cX1_copyFrom : ByteArray := prog_3_method_4_code
def yX1_copyFrom : MethodName := ⟨RX1, "copyFrom", "(LStandTugs$Field;)V"⟩
abbrev cX1_hasStand : ByteArray := prog_3_method_5_code
def yX1_hasStand : MethodName := ⟨RX1, "hasStand", "(I)Z"⟩
abbrev cX1_hasTug : ByteArray := prog_3_method_6_code
def yX1_hasTug : MethodName := ⟨RX1, "hasTug", "(I)Z"⟩
abbrev cX1_hasAircraft : ByteArray := prog_3_method_7_code
def yX1_hasAircraft : MethodName := ⟨RX1, "hasAircraft", "(I)Z"⟩
abbrev cX1_add : ByteArray := prog_3_method_8_code
def yX1_add : MethodName := ⟨RX1, "add", "(IIII)V"⟩
abbrev cX1_passSome : ByteArray := prog_3_method_10_code
def yX1_passSome : MethodName := ⟨RX1, "passSome", "(I)I"⟩
abbrev cX1_quietMinutes : ByteArray := prog_3_method_11_code
def yX1_quietMinutes : MethodName := ⟨RX1, "quietMinutes", "()I"⟩
abbrev cX1_workTugs : ByteArray := prog_3_method_12_code
def yX1_workTugs : MethodName := ⟨RX1, "workTugs", "()V"⟩
abbrev cX1_finish : ByteArray := prog_3_method_13_code
def yX1_finish : MethodName := ⟨RX1, "finish", "(I)V"⟩
abbrev cX1_receive : ByteArray := prog_3_method_14_code
def yX1_receive : MethodName := ⟨RX1, "receive", "()V"⟩
abbrev cX1_pushBack : ByteArray := prog_3_method_15_code
def yX1_pushBack : MethodName := ⟨RX1, "pushBack", "()V"⟩
abbrev cX1_turn : ByteArray := prog_3_method_16_code
def yX1_turn : MethodName := ⟨RX1, "turn", "(I)I"⟩
abbrev cX1_nextToLeave : ByteArray := prog_3_method_17_code
def yX1_nextToLeave : MethodName := ⟨RX1, "nextToLeave", "(I)I"⟩
abbrev cX1_beginPush : ByteArray := prog_3_method_18_code
def yX1_beginPush : MethodName := ⟨RX1, "beginPush", "(I)V"⟩
abbrev cX1_tow : ByteArray := prog_3_method_19_code
def yX1_tow : MethodName := ⟨RX1, "tow", "()V"⟩
abbrev cX1_countMinutes : ByteArray := prog_3_method_20_code
def yX1_countMinutes : MethodName := ⟨RX1, "countMinutes", "(I)V"⟩
abbrev cX1_freeStandFor : ByteArray := prog_3_method_21_code
def yX1_freeStandFor : MethodName := ⟨RX1, "freeStandFor", "(I)I"⟩
abbrev cX1_freeTugFor : ByteArray := prog_3_method_22_code
def yX1_freeTugFor : MethodName := ⟨RX1, "freeTugFor", "(I)I"⟩
abbrev cX1_reason : ByteArray := prog_3_method_23_code
def yX1_reason : MethodName := ⟨RX1, "reason", "(I)I"⟩
abbrev cX1_isCurfew : ByteArray := prog_3_method_24_code
def yX1_isCurfew : MethodName := ⟨RX1, "isCurfew", "()Z"⟩
abbrev cX1_isPushedFrom : ByteArray := prog_3_method_25_code
def yX1_isPushedFrom : MethodName := ⟨RX1, "isPushedFrom", "(I)Z"⟩
abbrev cX1_passUntilAllGone : ByteArray := prog_3_method_26_code
def yX1_passUntilAllGone : MethodName := ⟨RX1, "passUntilAllGone", "()I"⟩
abbrev cX1_areAllGone : ByteArray := prog_3_method_27_code
def yX1_areAllGone : MethodName := ⟨RX1, "areAllGone", "()Z"⟩
abbrev cX1_countAt : ByteArray := prog_3_method_28_code
def yX1_countAt : MethodName := ⟨RX1, "countAt", "(I)I"⟩
abbrev cX1_sumOfDelays : ByteArray := prog_3_method_29_code
def yX1_sumOfDelays : MethodName := ⟨RX1, "sumOfDelays", "()I"⟩
abbrev cX1_greatestDelay : ByteArray := prog_3_method_30_code
def yX1_greatestDelay : MethodName := ⟨RX1, "greatestDelay", "()I"⟩
abbrev cX1_sumOfBuses : ByteArray := prog_3_method_31_code
def yX1_sumOfBuses : MethodName := ⟨RX1, "sumOfBuses", "()I"⟩
abbrev cX1_standAnswer : ByteArray := prog_3_method_32_code
def yX1_standAnswer : MethodName := ⟨RX1, "standAnswer", "(II)I"⟩
abbrev cX1_answer : ByteArray := prog_3_method_33_code
def yX1_answer : MethodName := ⟨RX1, "answer", "(I)I"⟩
def RX2 : String := "StandTugs$Log"
def TX2 : u_T := fun k => match k with
  | 0 => ("StandTugs$Log", "kinds", "[I", true)
  | 1 => ("StandTugs$Log", "minutes", "[I", true)
  | 2 => ("StandTugs$Log", "numbers", "[I", true)
  | _ => ("StandTugs$Log", "total", "I", false)
def tyX2 : Nat → FieldType := fun k => match k with
  | 0 => .array .int
  | 1 => .array .int
  | 2 => .array .int
  | _ => .int
theorem nmX2 : ∀ a, a < 4 → ∀ b, b < 4 → a ≠ b → (TX2 a).2.1 ≠ (TX2 b).2.1 := by decide +kernel
theorem tyX2_ok : ∀ k, k < 4 → parseFieldDescriptor (TX2 k).2.2.1 = some (tyX2 k) := by decide +kernel
abbrev cX2_init : ByteArray := prog_4_method_1_code
def yX2_init : MethodName := ⟨RX2, "<init>", "()V"⟩
abbrev cX2_put : ByteArray := prog_4_method_2_code
def yX2_put : MethodName := ⟨RX2, "put", "(III)V"⟩
abbrev cX2_kept : ByteArray := prog_4_method_3_code
def yX2_kept : MethodName := ⟨RX2, "kept", "()I"⟩
abbrev cX2_copyFrom : ByteArray := prog_4_method_5_code
def yX2_copyFrom : MethodName := ⟨RX2, "copyFrom", "(LStandTugs$Log;)V"⟩
def RX3 : String := "StandTugs$Stand"
def TX3 : u_T := fun k => match k with
  | 0 => ("StandTugs$Stand", "span", "I", false)
  | 1 => ("StandTugs$Stand", "aircraft", "I", false)
  | _ => ("StandTugs$Stand", "minutes", "I", false)
def tyX3 : Nat → FieldType := fun k => match k with
  | 0 => .int
  | 1 => .int
  | _ => .int
theorem nmX3 : ∀ a, a < 3 → ∀ b, b < 3 → a ≠ b → (TX3 a).2.1 ≠ (TX3 b).2.1 := by decide +kernel
theorem tyX3_ok : ∀ k, k < 3 → parseFieldDescriptor (TX3 k).2.2.1 = some (tyX3 k) := by decide +kernel
abbrev cX3_init : ByteArray := prog_5_method_1_code
def yX3_init : MethodName := ⟨RX3, "<init>", "()V"⟩
abbrev cX3_restart : ByteArray := prog_5_method_2_code
def yX3_restart : MethodName := ⟨RX3, "restart", "()V"⟩
abbrev cX3_copyFrom : ByteArray := prog_5_method_3_code
def yX3_copyFrom : MethodName := ⟨RX3, "copyFrom", "(LStandTugs$Stand;)V"⟩
def RX4 : String := "StandTugs$Timetable"
def TX4 : u_T := fun k => match k with
  | 0 => ("StandTugs$Timetable", "bytes", "[I", true)
  | 1 => ("StandTugs$Timetable", "length", "I", false)
  | 2 => ("StandTugs$Timetable", "kinds", "[I", true)
  | 3 => ("StandTugs$Timetable", "comes", "[I", true)
  | 4 => ("StandTugs$Timetable", "leaves", "[I", true)
  | 5 => ("StandTugs$Timetable", "passengers", "[I", true)
  | 6 => ("StandTugs$Timetable", "count", "I", false)
  | 7 => ("StandTugs$Timetable", "position", "I", false)
  | _ => ("StandTugs$Timetable", "number", "I", false)
def tyX4 : Nat → FieldType := fun k => match k with
  | 0 => .array .int
  | 1 => .int
  | 2 => .array .int
  | 3 => .array .int
  | 4 => .array .int
  | 5 => .array .int
  | 6 => .int
  | 7 => .int
  | _ => .int
theorem nmX4 : ∀ a, a < 9 → ∀ b, b < 9 → a ≠ b → (TX4 a).2.1 ≠ (TX4 b).2.1 := by decide +kernel
theorem tyX4_ok : ∀ k, k < 9 → parseFieldDescriptor (TX4 k).2.2.1 = some (tyX4 k) := by decide +kernel
abbrev cX4_init : ByteArray := prog_6_method_1_code
def yX4_init : MethodName := ⟨RX4, "<init>", "()V"⟩
def RX5 : String := "StandTugs$Tug"
def TX5 : u_T := fun k => match k with
  | 0 => ("StandTugs$Tug", "strength", "I", false)
  | 1 => ("StandTugs$Tug", "aircraft", "I", false)
  | 2 => ("StandTugs$Tug", "minutesLeft", "I", false)
  | 3 => ("StandTugs$Tug", "pushes", "I", false)
  | _ => ("StandTugs$Tug", "tows", "I", false)
def tyX5 : Nat → FieldType := fun k => match k with
  | 0 => .int
  | 1 => .int
  | 2 => .int
  | 3 => .int
  | _ => .int
theorem nmX5 : ∀ a, a < 5 → ∀ b, b < 5 → a ≠ b → (TX5 a).2.1 ≠ (TX5 b).2.1 := by decide +kernel
theorem tyX5_ok : ∀ k, k < 5 → parseFieldDescriptor (TX5 k).2.2.1 = some (tyX5 k) := by decide +kernel
abbrev cX5_init : ByteArray := prog_7_method_1_code
def yX5_init : MethodName := ⟨RX5, "<init>", "()V"⟩
abbrev cX5_restart : ByteArray := prog_7_method_2_code
def yX5_restart : MethodName := ⟨RX5, "restart", "()V"⟩
abbrev cX5_copyFrom : ByteArray := prog_7_method_3_code
def yX5_copyFrom : MethodName := ⟨RX5, "copyFrom", "(LStandTugs$Tug;)V"⟩
abbrev cX5_take : ByteArray := prog_7_method_4_code
def yX5_take : MethodName := ⟨RX5, "take", "(II)V"⟩
abbrev cX5_answer : ByteArray := prog_7_method_5_code
def yX5_answer : MethodName := ⟨RX5, "answer", "(I)I"⟩
def RX6 : String := "StandTugs"
def TX6 : u_T := fun k => match k with
  | 0 => ("StandTugs", "now", "LStandTugs$Field;", true)
  | 1 => ("StandTugs", "trial", "LStandTugs$Field;", true)
  | 2 => ("StandTugs", "saved", "[LStandTugs$Field;", true)
  | 3 => ("StandTugs", "savedCount", "I", false)
  | _ => ("StandTugs", "timetable", "LStandTugs$Timetable;", true)
def tyX6 : Nat → FieldType := fun k => match k with
  | 0 => .object "StandTugs$Field"
  | 1 => .object "StandTugs$Field"
  | 2 => .array (.object "StandTugs$Field")
  | 3 => .int
  | _ => .object "StandTugs$Timetable"
theorem nmX6 : ∀ a, a < 5 → ∀ b, b < 5 → a ≠ b → (TX6 a).2.1 ≠ (TX6 b).2.1 := by decide +kernel
theorem tyX6_ok : ∀ k, k < 5 → parseFieldDescriptor (TX6 k).2.2.1 = some (tyX6 k) := by decide +kernel
abbrev cX6_init : ByteArray := prog_1_method_1_code
def yX6_init : MethodName := ⟨RX6, "<init>", "()V"⟩
abbrev cX6_begin : ByteArray := prog_1_method_2_code
def yX6_begin : MethodName := ⟨RX6, "begin", "(II)I"⟩
abbrev cX6_setSpan : ByteArray := prog_1_method_3_code
def yX6_setSpan : MethodName := ⟨RX6, "setSpan", "(II)I"⟩
abbrev cX6_setStrength : ByteArray := prog_1_method_4_code
def yX6_setStrength : MethodName := ⟨RX6, "setStrength", "(II)I"⟩
abbrev cX6_setCurfew : ByteArray := prog_1_method_5_code
def yX6_setCurfew : MethodName := ⟨RX6, "setCurfew", "(II)I"⟩
abbrev cX6_expect : ByteArray := prog_1_method_6_code
def yX6_expect : MethodName := ⟨RX6, "expect", "(IIII)I"⟩
abbrev cX6_setLeaves : ByteArray := prog_1_method_7_code
def yX6_setLeaves : MethodName := ⟨RX6, "setLeaves", "(II)I"⟩
abbrev cX6_pass : ByteArray := prog_1_method_8_code
def yX6_pass : MethodName := ⟨RX6, "pass", "(I)I"⟩
abbrev cX6_aircraft : ByteArray := prog_1_method_9_code
def yX6_aircraft : MethodName := ⟨RX6, "aircraft", "(II)I"⟩
abbrev cX6_stand : ByteArray := prog_1_method_10_code
def yX6_stand : MethodName := ⟨RX6, "stand", "(II)I"⟩
abbrev cX6_tug : ByteArray := prog_1_method_11_code
def yX6_tug : MethodName := ⟨RX6, "tug", "(II)I"⟩
abbrev cX6_value : ByteArray := prog_1_method_12_code
def yX6_value : MethodName := ⟨RX6, "value", "(I)I"⟩
abbrev cX6_why : ByteArray := prog_1_method_14_code
def yX6_why : MethodName := ⟨RX6, "why", "(I)I"⟩
abbrev cX6_delayOf : ByteArray := prog_1_method_15_code
def yX6_delayOf : MethodName := ⟨RX6, "delayOf", "(I)I"⟩
abbrev cX6_minutesToAll : ByteArray := prog_1_method_16_code
def yX6_minutesToAll : MethodName := ⟨RX6, "minutesToAll", "()I"⟩
abbrev cX6_used : ByteArray := prog_1_method_19_code
def yX6_used : MethodName := ⟨RX6, "used", "()D"⟩
abbrev cX6_undo : ByteArray := prog_1_method_23_code
def yX6_undo : MethodName := ⟨RX6, "undo", "()I"⟩
abbrev cX6_isOutside : ByteArray := prog_1_method_25_code
def yX6_isOutside : MethodName := ⟨RX6, "isOutside", "(III)Z"⟩
abbrev cX6_isKind : ByteArray := prog_1_method_26_code
def yX6_isKind : MethodName := ⟨RX6, "isKind", "(I)Z"⟩
abbrev cX6_save : ByteArray := prog_1_method_27_code
def yX6_save : MethodName := ⟨RX6, "save", "()V"⟩
abbrev cX6_dropOldest : ByteArray := prog_1_method_28_code
def yX6_dropOldest : MethodName := ⟨RX6, "dropOldest", "()V"⟩
def RX7 : String := "StandTugsModel"
def TX7 : u_T := fun k => match k with
  | _ => ("", "", "", false)
def tyX7 : Nat → FieldType := fun k => match k with
  | _ => .int
theorem nmX7 : ∀ a, a < 0 → ∀ b, b < 0 → a ≠ b → (TX7 a).2.1 ≠ (TX7 b).2.1 := by decide +kernel
theorem tyX7_ok : ∀ k, k < 0 → parseFieldDescriptor (TX7 k).2.2.1 = some (tyX7 k) := by decide +kernel
def RJ9 : String := "java/lang/Math"
def TJ9 : u_T := fun k => match k with
  | _ => ("", "", "", false)
def tyJ9 : Nat → FieldType := fun k => match k with
  | _ => .int
theorem nmJ9 : ∀ a, a < 0 → ∀ b, b < 0 → a ≠ b → (TJ9 a).2.1 ≠ (TJ9 b).2.1 := by decide +kernel
theorem tyJ9_ok : ∀ k, k < 0 → parseFieldDescriptor (TJ9 k).2.2.1 = some (tyJ9 k) := by decide +kernel
abbrev cJ9_max_7cf53 : ByteArray := prog_14_method_65_code
def yJ9_max_7cf53 : MethodName := ⟨RJ9, "max", "(II)I"⟩
abbrev cJ9_min_7cf53 : ByteArray := prog_14_method_69_code
def yJ9_min_7cf53 : MethodName := ⟨RJ9, "min", "(II)I"⟩
def RJ0 : String := "java/lang/String"
def TJ0 : u_T := fun k => match k with
  | _ => ("", "", "", false)
def tyJ0 : Nat → FieldType := fun k => match k with
  | _ => .int
theorem nmJ0 : ∀ a, a < 0 → ∀ b, b < 0 → a ≠ b → (TJ0 a).2.1 ≠ (TJ0 b).2.1 := by decide +kernel
theorem tyJ0_ok : ∀ k, k < 0 → parseFieldDescriptor (TJ0 k).2.2.1 = some (tyJ0 k) := by decide +kernel
def RJ10 : String := "java/lang/System"
def TJ10 : u_T := fun k => match k with
  | _ => ("", "", "", false)
def tyJ10 : Nat → FieldType := fun k => match k with
  | _ => .int
theorem nmJ10 : ∀ a, a < 0 → ∀ b, b < 0 → a ≠ b → (TJ10 a).2.1 ≠ (TJ10 b).2.1 := by decide +kernel
theorem tyJ10_ok : ∀ k, k < 0 → parseFieldDescriptor (TJ10 k).2.2.1 = some (tyJ10 k) := by decide +kernel
def RL : String := "StandTugsLaw"
abbrev cL_cell : ByteArray := method_2_code
def yL_cell : MethodName := ⟨RL, "cell", "([II)I"⟩
abbrev cL_up : ByteArray := method_3_code
def yL_up : MethodName := ⟨RL, "up", "(II)I"⟩
abbrev cL_fields : ByteArray := method_4_code
def yL_fields : MethodName := ⟨RL, "fields", "(LStandTugs;LStandTugs;I)Z"⟩
abbrev cL_isStep : ByteArray := method_5_code
def yL_isStep : MethodName := ⟨RL, "isStep", "(LStandTugs;LStandTugs;I)Z"⟩
abbrev cL_turned : ByteArray := method_6_code
def yL_turned : MethodName := ⟨RL, "turned", "(II)I"⟩
abbrev cL_areAlike : ByteArray := method_7_code
def yL_areAlike : MethodName := ⟨RL, "areAlike", "(LStandTugs;LStandTugs;)Z"⟩
abbrev cL_isSound : ByteArray := method_8_code
def yL_isSound : MethodName := ⟨RL, "isSound", "(LStandTugs;)Z"⟩
abbrev cL_law : ByteArray := code
def yL_law : MethodName := ⟨RL, "law", "([I)Z"⟩
abbrev vwCl : List vw_C := [(RX0, TX0, 10), (RX1, TX1, 10), (RX2, TX2, 4), (RX3, TX3, 3), (RX4, TX4, 9), (RX5, TX5, 5), (RX6, TX6, 5)]
/-- the words of the tables that stay: each has its place -/
def GW : List Cond := lw_tbl.filter goodWord
theorem gw_in : ∀ w ∈ GW, w ∈ lw_tbl := fun w h => (List.mem_filter.mp h).1
theorem gw_good : ∀ w ∈ GW, goodWord w = true := fun w h => (List.mem_filter.mp h).2
theorem gw_of {w : Cond} (h : w ∈ tables_1) (hg : goodWord w = true) : w ∈ GW := List.mem_filter.mpr ⟨List.mem_append_right _ h, hg⟩
theorem tb1 {w : Cond} (i : Nat) (h : tables_1_1[i]? = some w) : w ∈ tables_1 := by
  show w ∈ tables_1_1 ++ (tables_1_2 ++ (tables_1_3))
  exact List.mem_append_left _ (List.mem_of_getElem? h)
theorem gw1 {w : Cond} (i : Nat) (h : tables_1_1[i]? = some w) (hg : goodWord w = true) : w ∈ GW := gw_of (tb1 i h) hg
theorem tb2 {w : Cond} (i : Nat) (h : tables_1_2[i]? = some w) : w ∈ tables_1 := by
  show w ∈ tables_1_1 ++ (tables_1_2 ++ (tables_1_3))
  exact List.mem_append_right _ (List.mem_append_left _ (List.mem_of_getElem? h))
theorem gw2 {w : Cond} (i : Nat) (h : tables_1_2[i]? = some w) (hg : goodWord w = true) : w ∈ GW := gw_of (tb2 i h) hg
theorem tb3 {w : Cond} (i : Nat) (h : tables_1_3[i]? = some w) : w ∈ tables_1 := by
  show w ∈ tables_1_1 ++ (tables_1_2 ++ (tables_1_3))
  exact List.mem_append_right _ (List.mem_append_right _ (List.mem_of_getElem? h))
theorem gw3 {w : Cond} (i : Nat) (h : tables_1_3[i]? = some w) (hg : goodWord w = true) : w ∈ GW := gw_of (tb3 i h) hg
theorem gs1 {q : MethodName × Nat} (i : Nat) (h : lw_privs_1[i]? = some q) : Cond.selects q.1.cls q.1 q.1 ∈ GW := by
  refine List.mem_filter.mpr ⟨List.mem_append_left _ (List.mem_map.mpr ⟨q, ?_, rfl⟩), rfl⟩
  show q ∈ lw_privs_1 ++ (lw_privs_2)
  exact List.mem_append_left _ (List.mem_of_getElem? h)
theorem gs2 {q : MethodName × Nat} (i : Nat) (h : lw_privs_2[i]? = some q) : Cond.selects q.1.cls q.1 q.1 ∈ GW := by
  refine List.mem_filter.mpr ⟨List.mem_append_left _ (List.mem_map.mpr ⟨q, ?_, rfl⟩), rfl⟩
  show q ∈ lw_privs_1 ++ (lw_privs_2)
  exact List.mem_append_right _ (List.mem_of_getElem? h)
theorem gw_goodIn {ws : List Cond} (h : ∀ w ∈ ws, w ∈ GW) : GoodIn GW ws := fun w hw => ⟨h w hw, good_of_word (gw_good w (h w hw))⟩
theorem gw_sub {big ws : List Cond} (hb : ∀ w ∈ GW, w ∈ big) (h : ∀ w ∈ ws, w ∈ GW) : GoodIn big ws := fun w hw => ⟨hb w (h w hw), good_of_word (gw_good w (h w hw))⟩
theorem inX0 : ∀ w ∈ u_ws RX0 TX0 10, w ∈ GW := by
  show ∀ w ∈ [Cond.lays "StandTugs$Aircraft" "StandTugs$Aircraft" "span" "I", Cond.lays "StandTugs$Aircraft" "StandTugs$Aircraft" "weight" "I", Cond.lays "StandTugs$Aircraft" "StandTugs$Aircraft" "comes" "I", Cond.lays "StandTugs$Aircraft" "StandTugs$Aircraft" "leaves" "I", Cond.lays "StandTugs$Aircraft" "StandTugs$Aircraft" "passengers" "I", Cond.lays "StandTugs$Aircraft" "StandTugs$Aircraft" "place" "I", Cond.lays "StandTugs$Aircraft" "StandTugs$Aircraft" "stand" "I", Cond.lays "StandTugs$Aircraft" "StandTugs$Aircraft" "delay" "I", Cond.lays "StandTugs$Aircraft" "StandTugs$Aircraft" "minutes" "I", Cond.lays "StandTugs$Aircraft" "StandTugs$Aircraft" "buses" "I"], w ∈ GW
  exact List.forall_mem_cons.mpr ⟨gw1 132 rfl rfl, List.forall_mem_cons.mpr ⟨gw1 134 rfl rfl, List.forall_mem_cons.mpr ⟨gw1 136 rfl rfl, List.forall_mem_cons.mpr ⟨gw1 138 rfl rfl, List.forall_mem_cons.mpr ⟨gw1 140 rfl rfl, List.forall_mem_cons.mpr ⟨gw1 142 rfl rfl, List.forall_mem_cons.mpr ⟨gw1 144 rfl rfl, List.forall_mem_cons.mpr ⟨gw1 146 rfl rfl, List.forall_mem_cons.mpr ⟨gw1 148 rfl rfl, List.forall_mem_cons.mpr ⟨gw1 150 rfl rfl, fun _ h => absurd h List.not_mem_nil⟩⟩⟩⟩⟩⟩⟩⟩⟩⟩
theorem inX1 : ∀ w ∈ u_ws RX1 TX1 10, w ∈ GW := by
  show ∀ w ∈ [Cond.laysFinal "StandTugs$Field" "StandTugs$Field" "stands" "[LStandTugs$Stand;", Cond.laysFinal "StandTugs$Field" "StandTugs$Field" "tugs" "[LStandTugs$Tug;", Cond.laysFinal "StandTugs$Field" "StandTugs$Field" "aircraft" "[LStandTugs$Aircraft;", Cond.laysFinal "StandTugs$Field" "StandTugs$Field" "log" "LStandTugs$Log;", Cond.lays "StandTugs$Field" "StandTugs$Field" "standCount" "I", Cond.lays "StandTugs$Field" "StandTugs$Field" "tugCount" "I", Cond.lays "StandTugs$Field" "StandTugs$Field" "aircraftCount" "I", Cond.lays "StandTugs$Field" "StandTugs$Field" "minute" "I", Cond.lays "StandTugs$Field" "StandTugs$Field" "curfewBegin" "I", Cond.lays "StandTugs$Field" "StandTugs$Field" "curfewEnd" "I"], w ∈ GW
  exact List.forall_mem_cons.mpr ⟨gw1 187 rfl rfl, List.forall_mem_cons.mpr ⟨gw1 189 rfl rfl, List.forall_mem_cons.mpr ⟨gw1 191 rfl rfl, List.forall_mem_cons.mpr ⟨gw1 193 rfl rfl, List.forall_mem_cons.mpr ⟨gw1 195 rfl rfl, List.forall_mem_cons.mpr ⟨gw1 197 rfl rfl, List.forall_mem_cons.mpr ⟨gw1 199 rfl rfl, List.forall_mem_cons.mpr ⟨gw1 201 rfl rfl, List.forall_mem_cons.mpr ⟨gw1 203 rfl rfl, List.forall_mem_cons.mpr ⟨gw1 205 rfl rfl, fun _ h => absurd h List.not_mem_nil⟩⟩⟩⟩⟩⟩⟩⟩⟩⟩
theorem inX2 : ∀ w ∈ u_ws RX2 TX2 4, w ∈ GW := by
  show ∀ w ∈ [Cond.laysFinal "StandTugs$Log" "StandTugs$Log" "kinds" "[I", Cond.laysFinal "StandTugs$Log" "StandTugs$Log" "minutes" "[I", Cond.laysFinal "StandTugs$Log" "StandTugs$Log" "numbers" "[I", Cond.lays "StandTugs$Log" "StandTugs$Log" "total" "I"], w ∈ GW
  exact List.forall_mem_cons.mpr ⟨gw1 47 rfl rfl, List.forall_mem_cons.mpr ⟨gw1 49 rfl rfl, List.forall_mem_cons.mpr ⟨gw1 51 rfl rfl, List.forall_mem_cons.mpr ⟨gw1 53 rfl rfl, fun _ h => absurd h List.not_mem_nil⟩⟩⟩⟩
theorem inX3 : ∀ w ∈ u_ws RX3 TX3 3, w ∈ GW := by
  show ∀ w ∈ [Cond.lays "StandTugs$Stand" "StandTugs$Stand" "span" "I", Cond.lays "StandTugs$Stand" "StandTugs$Stand" "aircraft" "I", Cond.lays "StandTugs$Stand" "StandTugs$Stand" "minutes" "I"], w ∈ GW
  exact List.forall_mem_cons.mpr ⟨gw1 70 rfl rfl, List.forall_mem_cons.mpr ⟨gw1 72 rfl rfl, List.forall_mem_cons.mpr ⟨gw1 74 rfl rfl, fun _ h => absurd h List.not_mem_nil⟩⟩⟩
theorem inX4 : ∀ w ∈ u_ws RX4 TX4 9, w ∈ GW := by
  show ∀ w ∈ [Cond.laysFinal "StandTugs$Timetable" "StandTugs$Timetable" "bytes" "[I", Cond.lays "StandTugs$Timetable" "StandTugs$Timetable" "length" "I", Cond.laysFinal "StandTugs$Timetable" "StandTugs$Timetable" "kinds" "[I", Cond.laysFinal "StandTugs$Timetable" "StandTugs$Timetable" "comes" "[I", Cond.laysFinal "StandTugs$Timetable" "StandTugs$Timetable" "leaves" "[I", Cond.laysFinal "StandTugs$Timetable" "StandTugs$Timetable" "passengers" "[I", Cond.lays "StandTugs$Timetable" "StandTugs$Timetable" "count" "I", Cond.lays "StandTugs$Timetable" "StandTugs$Timetable" "position" "I", Cond.lays "StandTugs$Timetable" "StandTugs$Timetable" "number" "I"], w ∈ GW
  exact List.forall_mem_cons.mpr ⟨gw1 220 rfl rfl, List.forall_mem_cons.mpr ⟨gw1 222 rfl rfl, List.forall_mem_cons.mpr ⟨gw1 224 rfl rfl, List.forall_mem_cons.mpr ⟨gw1 226 rfl rfl, List.forall_mem_cons.mpr ⟨gw1 228 rfl rfl, List.forall_mem_cons.mpr ⟨gw1 230 rfl rfl, List.forall_mem_cons.mpr ⟨gw1 232 rfl rfl, List.forall_mem_cons.mpr ⟨gw1 234 rfl rfl, List.forall_mem_cons.mpr ⟨gw1 236 rfl rfl, fun _ h => absurd h List.not_mem_nil⟩⟩⟩⟩⟩⟩⟩⟩⟩
theorem inX5 : ∀ w ∈ u_ws RX5 TX5 5, w ∈ GW := by
  show ∀ w ∈ [Cond.lays "StandTugs$Tug" "StandTugs$Tug" "strength" "I", Cond.lays "StandTugs$Tug" "StandTugs$Tug" "aircraft" "I", Cond.lays "StandTugs$Tug" "StandTugs$Tug" "minutesLeft" "I", Cond.lays "StandTugs$Tug" "StandTugs$Tug" "pushes" "I", Cond.lays "StandTugs$Tug" "StandTugs$Tug" "tows" "I"], w ∈ GW
  exact List.forall_mem_cons.mpr ⟨gw1 93 rfl rfl, List.forall_mem_cons.mpr ⟨gw1 95 rfl rfl, List.forall_mem_cons.mpr ⟨gw1 97 rfl rfl, List.forall_mem_cons.mpr ⟨gw1 99 rfl rfl, List.forall_mem_cons.mpr ⟨gw1 101 rfl rfl, fun _ h => absurd h List.not_mem_nil⟩⟩⟩⟩⟩
theorem inX6 : ∀ w ∈ u_ws RX6 TX6 5, w ∈ GW := by
  show ∀ w ∈ [Cond.laysFinal "StandTugs" "StandTugs" "now" "LStandTugs$Field;", Cond.laysFinal "StandTugs" "StandTugs" "trial" "LStandTugs$Field;", Cond.laysFinal "StandTugs" "StandTugs" "saved" "[LStandTugs$Field;", Cond.lays "StandTugs" "StandTugs" "savedCount" "I", Cond.laysFinal "StandTugs" "StandTugs" "timetable" "LStandTugs$Timetable;"], w ∈ GW
  exact List.forall_mem_cons.mpr ⟨gw2 4 rfl rfl, List.forall_mem_cons.mpr ⟨gw2 6 rfl rfl, List.forall_mem_cons.mpr ⟨gw2 8 rfl rfl, List.forall_mem_cons.mpr ⟨gw2 10 rfl rfl, List.forall_mem_cons.mpr ⟨gw2 12 rfl rfl, fun _ h => absurd h List.not_mem_nil⟩⟩⟩⟩⟩
def NW : List Cond := [(Jvm.Cond.methodLinkNest "StandTugs$Field" (31 : Nat) ({ cls := "StandTugs$Log", name := "<init>", desc := "()V" } : Jvm.MethodName) "StandTugs"), (Jvm.Cond.methodLinkNest "StandTugs$Field" (36 : Nat) ({ cls := "StandTugs$Stand", name := "<init>", desc := "()V" } : Jvm.MethodName) "StandTugs"), (Jvm.Cond.methodLinkNest "StandTugs$Field" (37 : Nat) ({ cls := "StandTugs$Tug", name := "<init>", desc := "()V" } : Jvm.MethodName) "StandTugs"), (Jvm.Cond.methodLinkNest "StandTugs$Field" (38 : Nat) ({ cls := "StandTugs$Aircraft", name := "<init>", desc := "()V" } : Jvm.MethodName) "StandTugs"), (Jvm.Cond.methodLinkNest "StandTugs" (29 : Nat) ({ cls := "StandTugs$Timetable", name := "<init>", desc := "()V" } : Jvm.MethodName) "StandTugs"), (Jvm.Cond.castable "java/lang/IllegalArgumentException" "java/lang/IllegalArgumentException"), (Jvm.Cond.declares ({ cls := "java/lang/RuntimeException", name := "<init>", desc := "()V" } : Jvm.MethodName)), (Jvm.Cond.declares ({ cls := "java/lang/RuntimeException", name := "<init>", desc := "(Ljava/lang/String;)V" } : Jvm.MethodName)), (Jvm.Cond.declares ({ cls := "java/lang/Exception", name := "<init>", desc := "()V" } : Jvm.MethodName)), (Jvm.Cond.declares ({ cls := "java/lang/Exception", name := "<init>", desc := "(Ljava/lang/String;)V" } : Jvm.MethodName)), (Jvm.Cond.declares ({ cls := "java/lang/Throwable", name := "<init>", desc := "()V" } : Jvm.MethodName)), (Jvm.Cond.declares ({ cls := "java/lang/Throwable", name := "<init>", desc := "(Ljava/lang/String;)V" } : Jvm.MethodName)), (Jvm.Cond.castable "java/lang/IllegalStateException" "java/lang/IllegalStateException"), (Jvm.Cond.castable "java/lang/IndexOutOfBoundsException" "java/lang/IndexOutOfBoundsException")]
theorem nw_form : ∀ w ∈ NW, (∃ (a : String) (i : Nat) (x : MethodName) (h : String), w = .methodLinkNest a i x h) ∨ (∃ a b : String, w = .castable a b) ∨ ∃ x : MethodName, w = .declares x := List.forall_mem_cons.mpr ⟨Or.inl ⟨_, _, _, _, rfl⟩, List.forall_mem_cons.mpr ⟨Or.inl ⟨_, _, _, _, rfl⟩, List.forall_mem_cons.mpr ⟨Or.inl ⟨_, _, _, _, rfl⟩, List.forall_mem_cons.mpr ⟨Or.inl ⟨_, _, _, _, rfl⟩, List.forall_mem_cons.mpr ⟨Or.inl ⟨_, _, _, _, rfl⟩, List.forall_mem_cons.mpr ⟨Or.inr (Or.inl ⟨_, _, rfl⟩), List.forall_mem_cons.mpr ⟨Or.inr (Or.inr ⟨_, rfl⟩), List.forall_mem_cons.mpr ⟨Or.inr (Or.inr ⟨_, rfl⟩), List.forall_mem_cons.mpr ⟨Or.inr (Or.inr ⟨_, rfl⟩), List.forall_mem_cons.mpr ⟨Or.inr (Or.inr ⟨_, rfl⟩), List.forall_mem_cons.mpr ⟨Or.inr (Or.inr ⟨_, rfl⟩), List.forall_mem_cons.mpr ⟨Or.inr (Or.inr ⟨_, rfl⟩), List.forall_mem_cons.mpr ⟨Or.inr (Or.inl ⟨_, _, rfl⟩), List.forall_mem_cons.mpr ⟨Or.inr (Or.inl ⟨_, _, rfl⟩), fun _ h => absurd h List.not_mem_nil⟩⟩⟩⟩⟩⟩⟩⟩⟩⟩⟩⟩⟩⟩
theorem nw_in : ∀ w ∈ NW, w ∈ tables_1 := List.forall_mem_cons.mpr ⟨tb1 38 rfl, List.forall_mem_cons.mpr ⟨tb1 58 rfl, List.forall_mem_cons.mpr ⟨tb1 78 rfl, List.forall_mem_cons.mpr ⟨tb1 105 rfl, List.forall_mem_cons.mpr ⟨tb1 211 rfl, List.forall_mem_cons.mpr ⟨tb2 24 rfl, List.forall_mem_cons.mpr ⟨tb2 25 rfl, List.forall_mem_cons.mpr ⟨tb2 26 rfl, List.forall_mem_cons.mpr ⟨tb2 27 rfl, List.forall_mem_cons.mpr ⟨tb2 28 rfl, List.forall_mem_cons.mpr ⟨tb2 29 rfl, List.forall_mem_cons.mpr ⟨tb2 30 rfl, List.forall_mem_cons.mpr ⟨tb2 92 rfl, List.forall_mem_cons.mpr ⟨tb3 59 rfl, fun _ h => absurd h List.not_mem_nil⟩⟩⟩⟩⟩⟩⟩⟩⟩⟩⟩⟩⟩⟩
def AOS : List String := ["StandTugs$Stand", "StandTugs$Tug", "StandTugs$Aircraft", "StandTugs$Field"]
theorem ao_in : ∀ C ∈ AOS, Cond.arrayOver (.object C) ∈ tables_1 := List.forall_mem_cons.mpr ⟨tb1 31 rfl, List.forall_mem_cons.mpr ⟨tb1 33 rfl, List.forall_mem_cons.mpr ⟨tb1 35 rfl, List.forall_mem_cons.mpr ⟨tb1 208 rfl, fun _ h => absurd h List.not_mem_nil⟩⟩⟩⟩
def STR : List (String × Nat × String) := [("StandTugs", 146, "minutes out of range"), ("StandTugs", 148, "after the last minute"), ("StandTugs", 157, "what out of range"), ("StandTugs", 242, "no saved state"), ("StandTugs", 40, "stands or tugs out of range"), ("StandTugs", 61, "no such stand"), ("StandTugs", 64, "span out of range"), ("StandTugs", 78, "no such tug"), ("StandTugs", 80, "strength out of range"), ("StandTugs", 91, "begin or end out of range"), ("StandTugs", 108, "kind, minutes or passengers out of range"), ("StandTugs", 115, "12 aircraft already"), ("StandTugs", 125, "no such aircraft"), ("StandTugs", 136, "leaves out of range"), ("StandTugs", 141, "pushed back or gone")]
theorem str_in : ∀ z ∈ STR, Cond.stringRef z.1 z.2.1 z.2.2 ∈ tables_1 := List.forall_mem_cons.mpr ⟨tb2 63 rfl, List.forall_mem_cons.mpr ⟨tb2 99 rfl, List.forall_mem_cons.mpr ⟨tb2 231 rfl, List.forall_mem_cons.mpr ⟨tb3 31 rfl, List.forall_mem_cons.mpr ⟨tb3 43 rfl, List.forall_mem_cons.mpr ⟨tb3 66 rfl, List.forall_mem_cons.mpr ⟨tb3 73 rfl, List.forall_mem_cons.mpr ⟨tb3 82 rfl, List.forall_mem_cons.mpr ⟨tb3 83 rfl, List.forall_mem_cons.mpr ⟨tb3 91 rfl, List.forall_mem_cons.mpr ⟨tb3 100 rfl, List.forall_mem_cons.mpr ⟨tb3 101 rfl, List.forall_mem_cons.mpr ⟨tb3 118 rfl, List.forall_mem_cons.mpr ⟨tb3 127 rfl, List.forall_mem_cons.mpr ⟨tb3 128 rfl, fun _ h => absurd h List.not_mem_nil⟩⟩⟩⟩⟩⟩⟩⟩⟩⟩⟩⟩⟩⟩⟩
end
section
/-! THE LIGHT MACHINE: the program's own cells by numbers (1, 2, ..; 0 is the script), a frame as (pc, locals, stack), a code table of actions. Its runs are plain values; each action is sound over the machine (JOk), and so is a method's whole run (Con, ConX). -/
abbrev JC : Type := (Nat × vp_A) ⊕ (Nat × List Value)
abbrev JM : Type := Nat → JC
abbrev JH : Type := Nat × Nat × Nat × JM
abbrev JF : Type := Nat × List (Nat × Value) × List Value
abbrev JO : Type := Option Value ⊕ String
abbrev JA : Type := JF → JH → Option ((JF × JH) ⊕ ((Nat × List Value × JF × List (String × Int32)) ⊕ JO))
/-- a value by the cells' addresses -/
def tv (a : Nat → Nat) (v : Value) : Value := match v with
  | .ref q => .ref (a q)
  | w => w
def tx (a : Nat → Nat) (y : vp_A) : vp_A := match y with
  | (n, .inr (.inr (.inr (.inr f)))) => (n, .inr (.inr (.inr (.inr (fun j => (f j).map a)))))
  | z => z
def te (g : Nat → ClassId) (a : Nat → Nat) (c : JC) : va_E := match c with
  | .inl (t, y) => .inl (g t, tx a y)
  | .inr (c, fs) => .inr (c, fs.map (tv a))
def vwf (n : Nat) (v : Value) : Prop := match v with
  | .ref q => q < n
  | _ => True
def jwf (n : Nat) (c : JC) : Prop := match c with
  | .inl (_, _, .inr (.inr (.inr (.inr f)))) => ∀ (j q : Nat), f j = some q → q < n
  | .inl _ => True
  | .inr (_, fs) => ∀ v ∈ fs, vwf n v
def vfb (n : Nat) (v : Value) : Bool := match v with
  | .ref q => decide (q < n)
  | _ => true
/-- all references of a frame are below n -/
def jfr (n : Nat) (f : JF) : Bool := f.2.1.all (fun q => vfb n q.2) && f.2.2.all (vfb n)
def jT (t : Nat) : FieldType := match t with
  | 0 => .int
  | 1 => .int
  | 2 => .int
  | 3 => .object "StandTugs$Stand"
  | 4 => .object "StandTugs$Tug"
  | 5 => .object "StandTugs$Aircraft"
  | _ => .object "StandTugs$Field"
def jtys (g : Nat → ClassId) : List (ClassId × FieldType) := (List.range 7).map fun t => (g t, jT t)
theorem jtys_at (g : Nat → ClassId) {t : Nat} (h : t < 7) : (jtys g)[t]? = some (g t, jT t) := by
  unfold jtys
  rw [List.getElem?_map, List.getElem?_range h]
  rfl
def jR (D : va_G) (g : Nat → ClassId) (a : Nat → Nat) (n : Nat) (M : JM) (H : Heap) : Prop :=
  (∀ q, 0 < q → q < n → va_at D vwCl (a q, te g a (M q)) H) ∧ (∀ q r, 0 < q → q < n → 0 < r → r < n → a q = a r → q = r) ∧ (∀ q, 0 < q → q < n → jwf n (M q)) ∧ 0 < n ∧ ∀ q, q = 0 ∨ n ≤ q → M q = .inr (99, [])
/-- which cells a run may change: its own, and new ones -/
def jA (a : Nat → Nat) (n sz : Nat) : Nat → Prop := fun x => (∃ q, 0 < q ∧ q < n ∧ a q = x) ∨ sz ≤ x
theorem tv_cat (a : Nat → Nat) (v : Value) : (tv a v).category = v.category := by cases v <;> rfl
theorem tv_catsum (a : Nat → Nat) (vs : List Value) : ((vs.map (tv a)).map fun v => v.category) = vs.map fun v => v.category := by
  rw [List.map_map]
  exact List.map_congr_left fun v _ => tv_cat a v
theorem tv_congr {a a' : Nat → Nat} {n : Nat} {v : Value} (h : ∀ q, q < n → a' q = a q) (hv : vwf n v) : tv a' v = tv a v := by
  cases v with
  | ref q => exact congrArg Value.ref (h q hv)
  | _ => rfl
theorem vwf_of {n : Nat} {v : Value} (h : vfb n v = true) : vwf n v := by
  cases v with
  | ref q => exact (of_decide_eq_true (p := q < n) h)
  | _ => trivial
theorem vwf_mono {n m : Nat} {v : Value} (h : n ≤ m) (hv : vwf n v) : vwf m v := by
  cases v with
  | ref q => exact Nat.lt_of_lt_of_le hv h
  | _ => trivial
theorem jwf_mono {n m : Nat} {c : JC} (h : n ≤ m) (hc : jwf n c) : jwf m c := by
  obtain ⟨t, k, f | f | f | f | f⟩ | ⟨c, fs⟩ := c
  · trivial
  · trivial
  · trivial
  · trivial
  · exact fun j q e => Nat.lt_of_lt_of_le (hc j q e) h
  · exact fun v hv => vwf_mono h (hc v hv)
theorem te_congr {g : Nat → ClassId} {a a' : Nat → Nat} {n : Nat} {c : JC} (h : ∀ q, q < n → a' q = a q) (hc : jwf n c) : te g a' c = te g a c := by
  obtain ⟨t, k, f | f | f | f | f⟩ | ⟨c, fs⟩ := c
  · rfl
  · rfl
  · rfl
  · rfl
  · show Sum.inl (g t, k, _) = Sum.inl (g t, k, _)
    have e : (fun j => (f j).map a') = fun j => (f j).map a := by
      funext j
      cases hj : f j with
      | none => rfl
      | some q => exact congrArg some (h q (hc j q hj))
    rw [e]
  · show Sum.inr (c, fs.map (tv a')) = Sum.inr (c, fs.map (tv a))
    rw [List.map_congr_left fun v hv => tv_congr h (hc v hv)]
theorem tvs_congr {a a' : Nat → Nat} {n : Nat} {vs : List Value} (h : ∀ q, q < n → a' q = a q) (hv : vs.all (vfb n) = true) : vs.map (tv a') = vs.map (tv a) :=
  List.map_congr_left fun v hm => tv_congr h (vwf_of (List.all_eq_true.mp hv v hm))
theorem tvl_congr {a a' : Nat → Nat} {n : Nat} {l : List (Nat × Value)} (h : ∀ q, q < n → a' q = a q) (hv : l.all (fun q => vfb n q.2) = true) : l.map (fun q => (q.1, tv a' q.2)) = l.map (fun q => (q.1, tv a q.2)) :=
  List.map_congr_left fun v hm => by rw [tv_congr h (vwf_of (List.all_eq_true.mp hv v hm))]
theorem lv_args_tv (a : Nat → Nat) : ∀ (vs : List Value) (i : Nat), lv_args i (vs.map (tv a)) = (lv_args i vs).map (fun q => (q.1, tv a q.2))
  | [], _ => rfl
  | v :: vs, i => by
    show (i, tv a v) :: lv_args (if (tv a v).category = 2 then i + 2 else i + 1) (vs.map (tv a)) = (i, tv a v) :: (lv_args (if v.category = 2 then i + 2 else i + 1) vs).map _
    rw [tv_cat, lv_args_tv a vs]
/-- storing keeps step with the addresses -/
theorem tv_store1 (a : Nat → Nat) (i : Nat) (v : Value) (l : List (Nat × Value)) : (i, tv a v) :: (l.map (fun q => (q.1, tv a q.2))).filter (fun q => !(q.1 == i) && !(q.1 + 1 == i && q.2.category == 2)) = ((i, v) :: l.filter (fun q => !(q.1 == i) && !(q.1 + 1 == i && q.2.category == 2))).map (fun q => (q.1, tv a q.2)) := by
  rw [List.map_cons, List.filter_map]
  congr 3
  funext q
  simp only [Function.comp, tv_cat]
theorem tv_store2 (a : Nat → Nat) (i : Nat) (v : Value) (l : List (Nat × Value)) : (i, tv a v) :: (l.map (fun q => (q.1, tv a q.2))).filter (fun q => !(q.1 == i) && (!(q.1 == i + 1) && !(q.1 + 1 == i && q.2.category == 2))) = ((i, v) :: l.filter (fun q => !(q.1 == i) && (!(q.1 == i + 1) && !(q.1 + 1 == i && q.2.category == 2)))).map (fun q => (q.1, tv a q.2)) := by
  rw [List.map_cons, List.filter_map]
  congr 3
  funext q
  simp only [Function.comp, tv_cat]
def jlv (l : List (Nat × Value)) (i : Nat) : Option Value := match l with
  | [] => none
  | q :: r => if q.1 = i then some q.2 else jlv r i
theorem jlv_mem {i : Nat} {v : Value} : ∀ {l : List (Nat × Value)}, jlv l i = some v → (i, v) ∈ l
  | [], h => by cases h
  | q :: r, h => by
    unfold jlv at h
    by_cases e : q.1 = i
    · rw [if_pos e] at h
      cases h
      rw [← e]
      exact List.mem_cons_self
    · rw [if_neg e] at h
      exact List.mem_cons_of_mem _ (jlv_mem h)
theorem jlv_at {ls : Array Slot} {nL : Nat} {a : Nat → Nat} {l : List (Nat × Value)} {i : Nat} {v : Value} (hl : lv_has ls nL (l.map (fun q => (q.1, tv a q.2)))) (h : jlv l i = some v) : ls[i]? = some (.val (tv a v)) :=
  hl.2.2 (i, tv a v) (List.mem_map.mpr ⟨(i, v), jlv_mem h, rfl⟩)
theorem jlv_k {a : Nat → Nat} {l : List (Nat × Value)} {i : Nat} {v : Value} (h : jlv l i = some v) : ∃ k : Nat, (l.map (fun q => (q.1, tv a q.2)))[k]? = some (i, tv a v) :=
  List.getElem?_of_mem (List.mem_map.mpr ⟨(i, v), jlv_mem h, rfl⟩)
/-- exceptions that a handler of another kind lets pass -/
def NCS : List (String × String) := [("java/lang/IllegalArgumentException", "java/lang/IndexOutOfBoundsException"), ("java/lang/IllegalStateException", "java/lang/IndexOutOfBoundsException"), ("java/lang/IllegalStateException", "java/lang/IllegalArgumentException")]
/-! what the tables say at a state, and where the exceptions' statics lie -/
def jK (D : va_G) (g : Nat → ClassId) (U : State) : Prop := va_K D vwCl (jtys g) U ∧ (∀ w ∈ NW, va_Nw w U) ∧ (∀ C ∈ AOS, va_AO C U) ∧ (∀ z ∈ STR, ∃ sa, vk_R z.1 z.2.1 z.2.2 sa U) ∧ ∀ z ∈ NCS, va_Nc z.1 z.2 U
theorem jK.warm {D : va_G} {g : Nat → ClassId} {s U : State} (hW : s.WarmedH U.vm) (h : jK D g s) : jK D g U := by
  refine ⟨va_K.moved hW.alike h.1, fun w hw => ?_, fun C hC => va_AO.moved hW.alike (h.2.2.1 C hC), fun z hz => ?_, fun z hz => va_Nc.moved hW.alike (h.2.2.2.2 z hz)⟩
  · rcases nw_form w hw with ⟨a, i, x, k, rfl⟩ | ⟨a, b, rfl⟩ | ⟨x, rfl⟩
    · exact va_Nw.warmM hW (h.2.1 _ hw)
    · exact va_Nw.warmC hW (h.2.1 _ hw)
    · exact va_Nw.warmD hW (h.2.1 _ hw)
  · obtain ⟨sa, q⟩ := h.2.2.2.1 z hz
    exact ⟨sa, vk_R.warm hW q⟩
def jZ (A : Nat → Prop) (U : State) (H : Heap) : Prop := vx_Zq Bundle.tN "UNASSIGNED_STACK" Bundle.steD A U H ∧ vx_Zq Bundle.tN "SUPPRESSED_SENTINEL" Bundle.listD A U H
/-- a run's fixed surroundings -/
abbrev JX : Type := (Program × Launch × Env × Room × State) × (MethodId × Array Value × List Frame × Method × Code) × (va_G × (Nat → ClassId)) × ((Nat → Prop) × Nat × Nat × (Nat → Nat)) × (Nat × Nat × Nat × Nat) × (State → Prop)
def jC (cc : ByteArray) (own : String) (nm : String × List (Nat × Nat × Nat × Nat)) (nL0 dd : Nat) (scr : Option (Nat × (Nat → Int32))) (X : JX) : Prop := match X with
  | ((p, l, _, R, s), (m, args, _, meth, c), (D, g), (A, nL, n0, a0), (c0, s0, cE, sE), _) =>
    p.tables.exec = Jvm.exec ∧ c.code = cc ∧ s.vm.findClass own = some m.cls ∧ (c.maxLocals = nL ∧ nL = nL0) ∧ (∀ w ∈ GW, w.before args s = true) ∧ jK D g s ∧ jZ A s s.heap ∧
    (dd ≤ R.frames ∧ 36 * dd ≤ R.locals ∧ cE ≤ c0 + R.cells ∧ sE ≤ s0 + R.slots) ∧ ((∀ q, 0 < q → q < n0 → A (a0 q)) ∧ ∀ x, s.heap.size ≤ x → A x) ∧
    (∀ L xs, scr = some (L, xs) → va_X (a0 0) L xs s s.heap ∧ a0 0 < s.heap.size ∧ ¬ A (a0 0) ∧ 0 < n0) ∧ l.stackTraces = false ∧ meth.locks = false ∧ (nm.1 = "<init>" → meth.name = "<init>") ∧ (nm.2 ≠ [] → c.exceptionTable.toList = tableOf nm.2)
def jQ (X : JX) (a : Nat → Nat) (h : JH) (H : Heap) (locs : List Loc) (cells slots : Nat) : Prop := match X with
  | ((_, _, _, _, s), _, (D, g), (A, _, n0, a0), (c0, s0, _, _), _) =>
    jR D g a h.1 h.2.2.2 H ∧ va_S A s.heap H locs ∧ (∀ q, q < n0 → a q = a0 q) ∧ (h.1 = n0 → a = a0) ∧ (∀ q, n0 ≤ q → q < h.1 → s.heap.size ≤ a q) ∧ n0 ≤ h.1 ∧ h.2.1 = c0 + cells ∧ h.2.2.1 = s0 + slots
/-- from this frame over this heap the machine comes to its end -/
def jW (X : JX) (f : JF) (h : JH) : Prop := match X with
  | ((p, l, e, R, s), (m, args, below, meth, c), (D, g), (A, nL, n0, a0), (c0, s0, cE, sE), Q) => ∀ (a : Nat → Nat) (ls : Array Slot) (H : Heap) (locs : List Loc) (cells slots : Nat),
    lv_has ls nL (f.2.1.map (fun q => (q.1, tv a q.2))) → jQ ((p, l, e, R, s), (m, args, below, meth, c), (D, g), (A, nL, n0, a0), (c0, s0, cE, sE), Q) a h H locs cells slots → h.2.1 ≤ cE → h.2.2.1 ≤ sE →
    W p l e R s m args below meth c H locs cells slots Q (F0 m f.1 ls (f.2.2.map (tv a)))
/-- a return instruction for an answer of this kind -/
def jRet (i : Instr) (v : Option Value) : Prop := (i = .ireturn ∧ ∃ x, v = some (.int x)) ∨ (i = .lreturn ∧ ∃ x, v = some (.long x)) ∨ (i = .dreturn ∧ ∃ x, v = some (.double x)) ∨ (i = .return_ ∧ v = none)
/-- a run's end with an answer -/
def jEnd (cc : ByteArray) (X : JX) (v : Option Value) (h : JH) : Prop := match X with
  | ((p, l, e, R, s), (m, args, below, meth, c), Dg, An, (c0, s0, cE, sE), Q) => ∀ (a : Nat → Nat) (ls : Array Slot) (H : Heap) (locs : List Loc) (cells slots pc : Nat) (i : Instr),
    jQ ((p, l, e, R, s), (m, args, below, meth, c), Dg, An, (c0, s0, cE, sE), Q) a h H locs cells slots → h.2.1 ≤ cE → h.2.2.1 ≤ sE → decode cc pc = .ok (i, 1) → jRet i v →
    W p l e R s m args below meth c H locs cells slots Q (F0 m pc ls (v.toList.map (tv a)))
/-- .. with an exception -/
def jEndX (X : JX) (E : String) (h : JH) : Prop := match X with
  | ((p, l, e, R, s), (m, args, below, meth, c), Dg, An, (c0, s0, cE, sE), Q) => ∀ (a : Nat → Nat) (H : Heap) (locs : List Loc) (cells slots : Nat),
    jQ ((p, l, e, R, s), (m, args, below, meth, c), Dg, An, (c0, s0, cE, sE), Q) a h H locs cells slots → ∃ (Qc : Array Value → State → Outcome → State → Prop) (XC : String → State → State → Prop) (mc ms : Nat) (free : Addr → Prop),
      Q = vx_MQ below Qc XC args s mc ms free ∧ (∀ x ∈ c.exceptionTable.toList, False) ∧ (∀ t : State, s.vm.Alike t.vm → H.size ≤ t.heap.size → (∀ q : Nat, q < H.size → t.heap[q]? = H[q]?) → XC E s t) ∧ (∀ z ∈ locs, free z.base) ∧ cells + 1 ≤ mc ∧ slots + 6 ≤ ms ∧ mc ≤ R.cells ∧ ms ≤ R.slots
end
section
/-! actions, each sound over the machine -/
/-- a callee's run that returns, as a contract: μ's name, code .. come by M -/
abbrev JM5 : Type := MethodName × ByteArray × Nat × Option FieldType × Option (List (Nat × Nat × Nat × Nat))
def jword (M : JM5) : Cond := match M.2.2.2.2 with
  | none => .code M.1 M.2.1 M.2.2.1 M.2.2.2.1
  | some hh => .codeWith M.1 M.2.1 M.2.2.1 M.2.2.2.1 hh
def jws (M : JM5) : List Cond := jword M :: GW
/-- what a start says of the state -/
def jPre (D : va_G) (g : Nat → ClassId) (a : Nat → Nat) (h : JH) (sz : Nat) (U : State) : Prop := U.heap.size = sz ∧ jK D g U ∧ jR D g a h.1 h.2.2.2 U.heap ∧ jZ (jA a h.1 sz) U U.heap
def jPost (D : va_G) (g : Nat → ClassId) (a : Nat → Nat) (h h1 : JH) (sz : Nat) (r : Option Value) (st : State) (oc : Outcome) (t : State) : Prop :=
  (∃ a' : Nat → Nat, oc = .returned (r.map (tv a')) ∧ (∀ q, q < h.1 → a' q = a q) ∧ (h1.1 = h.1 → a' = a) ∧ (∀ q, h.1 ≤ q → q < h1.1 → sz ≤ a' q) ∧ jR D g a' h1.1 h1.2.2.2 t.heap) ∧ va_F (jA a h.1 sz) st t
def jLe (h h1 : JH) : Prop := h.1 ≤ h1.1 ∧ h.2.1 ≤ h1.2.1 ∧ h.2.2.1 ≤ h1.2.2.1
def Con (M : JM5) (d : Nat) (as : List Value) (h : JH) (r : Option Value) (h1 : JH) : Prop := jLe h h1 ∧ ∀ (l : Launch) (D : va_G) (g : Nat → ClassId) (a : Nat → Nat) (sz : Nat), l.stackTraces = false →
  Met l M.1 (jws M) { frames := d, cells := h1.2.1 - h.2.1, slots := h1.2.2.1 - h.2.2.1, locals := 36 * d } (va_Pc (as.map (tv a)) (jPre D g a h sz)) (fun _ st oc t => jPost D g a h h1 sz r st oc t) (h1.2.1 - h.2.1) (h1.2.2.1 - h.2.2.1) (jA a h.1 sz)
def jXC (D : va_G) (g : Nat → ClassId) (a : Nat → Nat) (h : JH) (sz : Nat) (E0 : String) : String → State → State → Prop := fun E st t => E = E0 ∧ jR D g a h.1 h.2.2.2 t.heap ∧ va_F (jA a h.1 sz) st t
def ConX (M : JM5) (d : Nat) (as : List Value) (h : JH) (E : String) (h1 : JH) : Prop := (jLe h h1 ∧ h1.1 = h.1) ∧ ∀ (l : Launch) (D : va_G) (g : Nat → ClassId) (a : Nat → Nat) (sz : Nat), l.stackTraces = false →
  vx_Met l M.1 (jws M) { frames := d, cells := h1.2.1 - h.2.1, slots := h1.2.2.1 - h.2.2.1, locals := 36 * d } (va_Pc (as.map (tv a)) (jPre D g a h sz)) (fun _ _ _ _ => False) (jXC D g a h1 sz E) (h1.2.1 - h.2.1) (h1.2.2.1 - h.2.2.1) (jA a h.1 sz)
/-- a call's two ways on -/
def jCall (tab : Nat → JM5) (cc : ByteArray) (dd : Nat) (X : JX) (μ : Nat) (as : List Value) (f' : JF) (ct : List (String × Int32)) (f : JF) (h : JH) : Prop := ∀ d, dd = d + 1 →
  (∀ r h1, Con (tab μ) d as h r h1 → (h1.1 = h.1 ∨ jfr h.1 f' = true) → h1.2.1 ≤ (match X with | (_, _, _, _, (_, _, cE, _), _) => cE) → h1.2.2.1 ≤ (match X with | (_, _, _, _, (_, _, _, sE), _) => sE) → jW X (f'.1, f'.2.1, r.toList ++ f'.2.2) h1 → jW X f h) ∧
  (∀ E k h1, ConX (tab μ) d as h E h1 → (E, k) ∈ ct → h1.2.1 ≤ (match X with | (_, _, _, _, (_, _, cE, _), _) => cE) → h1.2.2.1 ≤ (match X with | (_, _, _, _, (_, _, _, sE), _) => sE) → jEnd cc X (some (.int k)) h1 → jW X f h)
def jDo (tab : Nat → JM5) (cc : ByteArray) (dd : Nat) (X : JX) (f : JF) (h : JH) (r : Option ((JF × JH) ⊕ ((Nat × List Value × JF × List (String × Int32)) ⊕ JO))) : Prop := match r with
  | none => True
  | some (.inl (f', h')) => h'.2.1 ≤ (match X with | (_, _, _, _, (_, _, cE, _), _) => cE) → h'.2.2.1 ≤ (match X with | (_, _, _, _, (_, _, _, sE), _) => sE) → jW X f' h' → jW X f h
  | some (.inr (.inl (μ, as, f', ct))) => jCall tab cc dd X μ as f' ct f h
  | some (.inr (.inr (.inl v))) => jEnd cc X v h → jW X f h
  | some (.inr (.inr (.inr E))) => 6 ≤ dd → jEndX X E h → jW X f h
/-- an action is sound at a place of a method's code -/
def JOk (tab : Nat → JM5) (cc : ByteArray) (own : String) (nm : String × List (Nat × Nat × Nat × Nat)) (nL : Nat) (scr : Option (Nat × (Nat → Int32))) (pc : Nat) (act : JA) : Prop :=
  (∀ l st h f' h', act (pc, l, st) h = some (.inl (f', h')) → jLe h h') ∧ ∀ dd X, 1 ≤ dd → jC cc own nm nL dd scr X → ∀ l st h, jDo tab cc dd X (pc, l, st) h (act (pc, l, st) h)
theorem jLe.rf {h : JH} : jLe h h := ⟨Nat.le_refl _, Nat.le_refl _, Nat.le_refl _⟩
theorem jLe.trans {h h1 h2 : JH} (p : jLe h h1) (q : jLe h1 h2) : jLe h h2 := ⟨Nat.le_trans p.1 q.1, Nat.le_trans p.2.1 q.2.1, Nat.le_trans p.2.2 q.2.2⟩
section JOPS
variable {tab : Nat → JM5} {cc : ByteArray} {own : String} {nm : String × List (Nat × Nat × Nat × Nat)} {nL : Nat} {scr : Option (Nat × (Nat → Int32))} {pc : Nat}
/-! the stack alone -/
def a_stk (len : Nat) (sem : List Value → Option (List Value)) : JA := fun f h => match sem f.2.2 with
  | some st => some (.inl ((f.1 + len, f.2.1, st), h))
  | none => none
def jStk (cc : ByteArray) (pc len : Nat) (sem : List Value → Option (List Value)) : Prop := ∀ (p : Program) (l : Launch) (e : Env) (R : Room) (s : State) (m : MethodId) (args : Array Value) (below : List Frame) (meth : Method) (c : Code) (H : Heap) (locs : List Loc) (cells slots : Nat) (Q : State → Prop) (ls : Array Slot) (a : Nat → Nat) (st st' : List Value),
  p.tables.exec = Jvm.exec → c.code = cc → sem st = some st' → W p l e R s m args below meth c H locs cells slots Q (F0 m (pc + len) ls (st'.map (tv a))) → W p l e R s m args below meth c H locs cells slots Q (F0 m pc ls (st.map (tv a)))
theorem k_stk {len : Nat} {sem : List Value → Option (List Value)} (hk : jStk cc pc len sem) : JOk tab cc own nm nL scr pc (a_stk len sem) := by
  refine ⟨fun l st h f' h' e => ?_, fun dd X _ C l st h => ?_⟩
  · unfold a_stk at e
    split at e
    · cases e
      exact jLe.rf
    · cases e
  · show jDo tab cc dd X (pc, l, st) h (match sem st with
      | some st => some (.inl ((pc + len, l, st), h))
      | none => none)
    cases hs : sem st with
    | none => trivial
    | some st' =>
      obtain ⟨⟨p, ln, e, R, s⟩, ⟨m, args, below, meth, c⟩, ⟨D, g⟩, ⟨A, n, n0, a0⟩, ⟨c0, s0, cE, sE⟩, Q⟩ := X
      intro _ _ k a ls H locs cells slots h1 h2 h3 h4
      exact hk p ln e R s m args below meth c H locs cells slots Q ls a st st' C.1 C.2.1 hs (k a ls H locs cells slots h1 h2 h3 h4)
def s_push (v : Value) : List Value → Option (List Value) := fun st => some (v :: st)
def s_iadd : List Value → Option (List Value) := fun st => match st with
  | .int y :: .int x :: r => some (.int (x + y) :: r)
  | _ => none
def s_isub : List Value → Option (List Value) := fun st => match st with
  | .int y :: .int x :: r => some (.int (x - y) :: r)
  | _ => none
def s_imul : List Value → Option (List Value) := fun st => match st with
  | .int y :: .int x :: r => some (.int (x * y) :: r)
  | _ => none
def s_iand : List Value → Option (List Value) := fun st => match st with
  | .int y :: .int x :: r => some (.int (x &&& y) :: r)
  | _ => none
def s_idiv : List Value → Option (List Value) := fun st => match st with
  | .int y :: .int x :: r => if y = 0 then none else some (.int (x / y) :: r)
  | _ => none
def s_irem : List Value → Option (List Value) := fun st => match st with
  | .int y :: .int x :: r => if y = 0 then none else some (.int (x - x / y * y) :: r)
  | _ => none
def s_ladd : List Value → Option (List Value) := fun st => match st with
  | .long y :: .long x :: r => some (.long (x + y) :: r)
  | _ => none
def s_lsub : List Value → Option (List Value) := fun st => match st with
  | .long y :: .long x :: r => some (.long (x - y) :: r)
  | _ => none
def s_lmul : List Value → Option (List Value) := fun st => match st with
  | .long y :: .long x :: r => some (.long (x * y) :: r)
  | _ => none
def s_i2l : List Value → Option (List Value) := fun st => match st with
  | .int x :: r => some (.long x.toInt64 :: r)
  | _ => none
def s_i2d : List Value → Option (List Value) := fun st => match st with
  | .int x :: r => some (.double (FP.i2d x) :: r)
  | _ => none
def s_dup : List Value → Option (List Value) := fun st => match st with
  | v :: r => if v.category = 1 then some (v :: v :: r) else none
  | _ => none
def s_dup2 : List Value → Option (List Value) := fun st => match st with
  | v :: w :: r => if v.category = 1 ∧ w.category = 1 then some (v :: w :: v :: w :: r) else none
  | _ => none
theorem k_iconst {n : Int} {v : Int32} (hd : decode cc pc = .ok (.iconst n, 1)) (hv : Int32.ofInt n = v) : JOk tab cc own nm nL scr pc (a_stk 1 (s_push (.int v))) := k_stk (by
  intro p l e R s m args below meth c H locs cells slots Q ls a st st' hx hb hs k
  cases hs
  exact lv_iconst hx hb hd hv k)
theorem k_bipush {n : Int} {v : Int32} (hd : decode cc pc = .ok (.bipush n, 2)) (hv : (Int8.ofInt n).toInt32 = v) : JOk tab cc own nm nL scr pc (a_stk 2 (s_push (.int v))) := k_stk (by
  intro p l e R s m args below meth c H locs cells slots Q ls a st st' hx hb hs k
  cases hs
  exact lv_bipush hx hb hd hv k)
theorem k_sipush {n : Int} {v : Int32} (hd : decode cc pc = .ok (.sipush n, 3)) (hv : (Int16.ofInt n).toInt32 = v) : JOk tab cc own nm nL scr pc (a_stk 3 (s_push (.int v))) := k_stk (by
  intro p l e R s m args below meth c H locs cells slots Q ls a st st' hx hb hs k
  cases hs
  exact lv_sipush hx hb hd hv k)
theorem k_lconst {n : Fin 2} {v : Int64} (hd : decode cc pc = .ok (.lconst n, 1)) (hv : Int64.ofNat (n : Nat) = v) : JOk tab cc own nm nL scr pc (a_stk 1 (s_push (.long v))) := k_stk (by
  intro p l e R s m args below meth c H locs cells slots Q ls a st st' hx hb hs k
  cases hs
  exact lv_lconst hx hb hd hv k)
theorem k_dconst0 (hd : decode cc pc = .ok (.dconst 0, 1)) : JOk tab cc own nm nL scr pc (a_stk 1 (s_push (.double FP.dconst0))) := k_stk (by
  intro p l e R s m args below meth c H locs cells slots Q ls a st st' hx hb hs k
  cases hs
  exact lv_dconst0 hx hb hd k)
theorem k_iadd (hd : decode cc pc = .ok (.iadd, 1)) : JOk tab cc own nm nL scr pc (a_stk 1 s_iadd) := k_stk (by
  intro p l e R s m args below meth c H locs cells slots Q ls a st st' hx hb hs k
  unfold s_iadd at hs
  split at hs
  · cases hs
    exact lv_iadd hx hb hd k
  · cases hs)
theorem k_isub (hd : decode cc pc = .ok (.isub, 1)) : JOk tab cc own nm nL scr pc (a_stk 1 s_isub) := k_stk (by
  intro p l e R s m args below meth c H locs cells slots Q ls a st st' hx hb hs k
  unfold s_isub at hs
  split at hs
  · cases hs
    exact lv_isub hx hb hd k
  · cases hs)
theorem k_imul (hd : decode cc pc = .ok (.imul, 1)) : JOk tab cc own nm nL scr pc (a_stk 1 s_imul) := k_stk (by
  intro p l e R s m args below meth c H locs cells slots Q ls a st st' hx hb hs k
  unfold s_imul at hs
  split at hs
  · cases hs
    exact lv_imul hx hb hd k
  · cases hs)
theorem k_iand (hd : decode cc pc = .ok (.iand, 1)) : JOk tab cc own nm nL scr pc (a_stk 1 s_iand) := k_stk (by
  intro p l e R s m args below meth c H locs cells slots Q ls a st st' hx hb hs k
  unfold s_iand at hs
  split at hs
  · cases hs
    exact lv_iand hx hb hd k
  · cases hs)
theorem k_idiv (hd : decode cc pc = .ok (.idiv, 1)) : JOk tab cc own nm nL scr pc (a_stk 1 s_idiv) := k_stk (by
  intro p l e R s m args below meth c H locs cells slots Q ls a st st' hx hb hs k
  unfold s_idiv at hs
  split at hs
  · split at hs
    · cases hs
    · cases hs
      exact lv_idiv hx hb hd (by assumption) k
  · cases hs)
theorem k_irem (hd : decode cc pc = .ok (.irem, 1)) : JOk tab cc own nm nL scr pc (a_stk 1 s_irem) := k_stk (by
  intro p l e R s m args below meth c H locs cells slots Q ls a st st' hx hb hs k
  unfold s_irem at hs
  split at hs
  · split at hs
    · cases hs
    · cases hs
      exact lv_irem hx hb hd (by assumption) k
  · cases hs)
theorem k_ladd (hd : decode cc pc = .ok (.ladd, 1)) : JOk tab cc own nm nL scr pc (a_stk 1 s_ladd) := k_stk (by
  intro p l e R s m args below meth c H locs cells slots Q ls a st st' hx hb hs k
  unfold s_ladd at hs
  split at hs
  · cases hs
    exact lv_ladd hx hb hd k
  · cases hs)
theorem k_lsub (hd : decode cc pc = .ok (.lsub, 1)) : JOk tab cc own nm nL scr pc (a_stk 1 s_lsub) := k_stk (by
  intro p l e R s m args below meth c H locs cells slots Q ls a st st' hx hb hs k
  unfold s_lsub at hs
  split at hs
  · cases hs
    exact lv_lsub hx hb hd k
  · cases hs)
theorem k_lmul (hd : decode cc pc = .ok (.lmul, 1)) : JOk tab cc own nm nL scr pc (a_stk 1 s_lmul) := k_stk (by
  intro p l e R s m args below meth c H locs cells slots Q ls a st st' hx hb hs k
  unfold s_lmul at hs
  split at hs
  · cases hs
    exact lv_lmul hx hb hd k
  · cases hs)
theorem k_i2l (hd : decode cc pc = .ok (.i2l, 1)) : JOk tab cc own nm nL scr pc (a_stk 1 s_i2l) := k_stk (by
  intro p l e R s m args below meth c H locs cells slots Q ls a st st' hx hb hs k
  unfold s_i2l at hs
  split at hs
  · cases hs
    exact lv_i2l hx hb hd rfl k
  · cases hs)
theorem k_i2d (hd : decode cc pc = .ok (.i2d, 1)) : JOk tab cc own nm nL scr pc (a_stk 1 s_i2d) := k_stk (by
  intro p l e R s m args below meth c H locs cells slots Q ls a st st' hx hb hs k
  unfold s_i2d at hs
  split at hs
  · cases hs
    exact lv_i2d hx hb hd k
  · cases hs)
theorem k_dup (hd : decode cc pc = .ok (.dup, 1)) : JOk tab cc own nm nL scr pc (a_stk 1 s_dup) := k_stk (by
  intro p l e R s m args below meth c H locs cells slots Q ls a st st' hx hb hs k
  unfold s_dup at hs
  split at hs
  · split at hs
    · cases hs
      exact lv_dup hx hb hd (by rw [tv_cat]; assumption) k
    · cases hs
  · cases hs)
theorem k_dup2 (hd : decode cc pc = .ok (.dup2, 1)) : JOk tab cc own nm nL scr pc (a_stk 1 s_dup2) := k_stk (by
  intro p l e R s m args below meth c H locs cells slots Q ls a st st' hx hb hs k
  unfold s_dup2 at hs
  split at hs
  · split at hs
    · rename_i hc
      cases hs
      exact lv_dup2_11 hx hb hd (by rw [tv_cat]; exact hc.1) (by rw [tv_cat]; exact hc.2) k
    · cases hs
  · cases hs)
/-- a double that is no NaN -/
def jnn (r : UInt64) : Bool := decide (r &&& 0x7fffffffffffffff ≤ 0x7ff0000000000000)
def s_dadd : List Value → Option (List Value) := fun st => match st with
  | .double y :: .double x :: r => if jnn (FP.dadd x y) = true then some (.double (FP.dadd x y) :: r) else none
  | _ => none
def s_ddiv : List Value → Option (List Value) := fun st => match st with
  | .double y :: .double x :: r => if jnn (FP.ddiv x y) = true then some (.double (FP.ddiv x y) :: r) else none
  | _ => none
def s_dcmp (op : CmpOp) : List Value → Option (List Value) := fun st => match st with
  | .double y :: .double x :: r => some (.int (Op.cmpValue (FP.dcmp x y) op) :: r)
  | _ => none
def s_lcmp : List Value → Option (List Value) := fun st => match st with
  | .long y :: .long x :: r => some (.int (lg_cmp x y) :: r)
  | _ => none
theorem k_dadd (hd : decode cc pc = .ok (.dadd, 1)) : JOk tab cc own nm nL scr pc (a_stk 1 s_dadd) := k_stk (by
  intro p l e R s m args below meth c H locs cells slots Q ls a st st' hx hb hs k
  unfold s_dadd at hs
  split at hs
  · split at hs
    · rename_i hc
      cases hs
      exact lv_dadd hx hb hd (by unfold vf_n64; exact of_decide_eq_true hc) k
    · cases hs
  · cases hs)
theorem k_ddiv (hd : decode cc pc = .ok (.ddiv, 1)) : JOk tab cc own nm nL scr pc (a_stk 1 s_ddiv) := k_stk (by
  intro p l e R s m args below meth c H locs cells slots Q ls a st st' hx hb hs k
  unfold s_ddiv at hs
  split at hs
  · split at hs
    · rename_i hc
      cases hs
      exact lv_ddiv hx hb hd (by unfold vf_n64; exact of_decide_eq_true hc) k
    · cases hs
  · cases hs)
theorem k_dcmp {op : CmpOp} (hd : decode cc pc = .ok (.dcmp op, 1)) : JOk tab cc own nm nL scr pc (a_stk 1 (s_dcmp op)) := k_stk (by
  intro p l e R s m args below meth c H locs cells slots Q ls a st st' hx hb hs k
  unfold s_dcmp at hs
  split at hs
  · cases hs
    exact lv_dcmp hx hb hd k
  · cases hs)
theorem k_lcmp (hd : decode cc pc = .ok (.lcmp, 1)) : JOk tab cc own nm nL scr pc (a_stk 1 s_lcmp) := k_stk (by
  intro p l e R s m args below meth c H locs cells slots Q ls a st st' hx hb hs k
  unfold s_lcmp at hs
  split at hs
  · cases hs
    exact W.lcmp hx hb hd k
  · cases hs)
/-! actions that leave the heap: a general way in -/
def jLoc (tab : Nat → JM5) (cc : ByteArray) (own : String) (nm : String × List (Nat × Nat × Nat × Nat)) (nL : Nat) (scr : Option (Nat × (Nat → Int32))) (pc : Nat) (act : JA) : Prop := ∀ l st h f' h', act (pc, l, st) h = some (.inl (f', h')) → h' = h ∧
  ∀ dd (p : Program) (l0 : Launch) (e : Env) (R : Room) (s : State) (m : MethodId) (args : Array Value) (below : List Frame) (meth : Method) (c : Code) (D : va_G) (g : Nat → ClassId) (A : Nat → Prop) (n n0 : Nat) (a0 : Nat → Nat) (c0 s0 cE sE : Nat) (Q : State → Prop), 1 ≤ dd →
    jC cc own nm nL dd scr ((p, l0, e, R, s), (m, args, below, meth, c), (D, g), (A, n, n0, a0), (c0, s0, cE, sE), Q) →
    ∀ (a : Nat → Nat) (ls : Array Slot) (H : Heap) (locs : List Loc) (cells slots : Nat), lv_has ls n (l.map (fun q => (q.1, tv a q.2))) →
    jQ ((p, l0, e, R, s), (m, args, below, meth, c), (D, g), (A, n, n0, a0), (c0, s0, cE, sE), Q) a h H locs cells slots → h.2.1 ≤ cE → h.2.2.1 ≤ sE →
    (∀ ls' : Array Slot, lv_has ls' n (f'.2.1.map (fun q => (q.1, tv a q.2))) → W p l0 e R s m args below meth c H locs cells slots Q (F0 m f'.1 ls' (f'.2.2.map (tv a)))) → W p l0 e R s m args below meth c H locs cells slots Q (F0 m pc ls (st.map (tv a)))
theorem k_loc {act : JA} (h0 : ∀ f h y, act f h ≠ some (.inr y)) (hk : jLoc tab cc own nm nL scr pc act) : JOk tab cc own nm nL scr pc act := by
  refine ⟨fun l st h f' h' e => ?_, fun dd X hdd C l st h => ?_⟩
  · obtain ⟨rfl, -⟩ := hk l st h f' h' e
    exact jLe.rf
  · obtain ⟨⟨p, ln, e, R, s⟩, ⟨m, args, below, meth, c⟩, ⟨D, g⟩, ⟨A, n, n0, a0⟩, ⟨c0, s0, cE, sE⟩, Q⟩ := X
    cases hs : act (pc, l, st) h with
    | none => trivial
    | some y =>
      obtain ⟨f', h'⟩ | y := y
      · obtain ⟨rfl, q⟩ := hk l st h f' h' hs
        intro _ _ k a ls H locs cells slots h1 h2 h3 h4
        exact q dd p ln e R s m args below meth c D g A n n0 a0 c0 s0 cE sE Q hdd C a ls H locs cells slots h1 h2 h3 h4 (fun ls' h5 => k a ls' H locs cells slots h5 h2 h3 h4)
      · exact absurd hs (h0 _ _ y)
def a_ild (len i : Nat) : JA := fun f h => match jlv f.2.1 i with
  | some (.int x) => some (.inl ((f.1 + len, f.2.1, .int x :: f.2.2), h))
  | _ => none
def a_ald (len i : Nat) : JA := fun f h => match jlv f.2.1 i with
  | some (.ref x) => some (.inl ((f.1 + len, f.2.1, .ref x :: f.2.2), h))
  | _ => none
def a_lld (len i : Nat) : JA := fun f h => match jlv f.2.1 i with
  | some (.long x) => some (.inl ((f.1 + len, f.2.1, .long x :: f.2.2), h))
  | _ => none
def a_dld (len i : Nat) : JA := fun f h => match jlv f.2.1 i with
  | some (.double x) => some (.inl ((f.1 + len, f.2.1, .double x :: f.2.2), h))
  | _ => none
def a_ist (len i : Nat) : JA := fun f h => match f.2.2 with
  | .int x :: r => some (.inl ((f.1 + len, (i, .int x) :: f.2.1.filter (fun q => !(q.1 == i) && !(q.1 + 1 == i && q.2.category == 2)), r), h))
  | _ => none
def a_ast (len i : Nat) : JA := fun f h => match f.2.2 with
  | .ref x :: r => some (.inl ((f.1 + len, (i, .ref x) :: f.2.1.filter (fun q => !(q.1 == i) && !(q.1 + 1 == i && q.2.category == 2)), r), h))
  | _ => none
def a_lst (len i : Nat) : JA := fun f h => match f.2.2 with
  | .long x :: r => some (.inl ((f.1 + len, (i, .long x) :: f.2.1.filter (fun q => !(q.1 == i) && (!(q.1 == i + 1) && !(q.1 + 1 == i && q.2.category == 2))), r), h))
  | _ => none
def a_dst (len i : Nat) : JA := fun f h => match f.2.2 with
  | .double x :: r => some (.inl ((f.1 + len, (i, .double x) :: f.2.1.filter (fun q => !(q.1 == i) && (!(q.1 == i + 1) && !(q.1 + 1 == i && q.2.category == 2))), r), h))
  | _ => none
def a_iinc (i : Nat) (d : Int32) : JA := fun f h => match jlv f.2.1 i with
  | some (.int x) => some (.inl ((f.1 + 3, (i, .int (x + d)) :: f.2.1.filter (fun q => !(q.1 == i) && !(q.1 + 1 == i && q.2.category == 2)), f.2.2), h))
  | _ => none
def a_goto (t : Nat) : JA := fun f h => some (.inl ((t, f.2.1, f.2.2), h))
def a_ldc2 (v : Int64) : JA := fun f h => some (.inl ((f.1 + 3, f.2.1, .long v :: f.2.2), h))
theorem k_ild {i : Nat} (hd : decode cc pc = .ok (.iload i, 2)) : JOk tab cc own nm nL scr pc (a_ild 2 i) := k_loc (fun f h y e => by unfold a_ild at e; split at e <;> cases e) (by
  intro l st h f' h' e
  unfold a_ild at e
  split at e
  · rename_i x hx
    cases e
    refine ⟨rfl, fun dd p l0 e R s m args below meth c D g A n n0 a0 c0 s0 cE sE Q hdd C a ls H locs cells slots hl hq h1 h2 k => ?_⟩
    exact lv_iload C.1 C.2.1 hd (jlv_at hl hx) (k ls hl)
  · cases e)
theorem k_ild_n {n : Fin 4} {i : Nat} (hd : decode cc pc = .ok (.iload_n n, 1)) (hi : (n : Nat) = i) : JOk tab cc own nm nL scr pc (a_ild 1 i) := k_loc (fun f h y e => by unfold a_ild at e; split at e <;> cases e) (by
  intro l st h f' h' e
  unfold a_ild at e
  split at e
  · rename_i x hx
    cases e
    refine ⟨rfl, fun dd p l0 e R s m args below meth c D g A n n0 a0 c0 s0 cE sE Q hdd C a ls H locs cells slots hl hq h1 h2 k => ?_⟩
    exact lv_iload_n C.1 C.2.1 hd hi (jlv_at hl hx) (k ls hl)
  · cases e)
theorem k_ald {i : Nat} (hd : decode cc pc = .ok (.aload i, 2)) : JOk tab cc own nm nL scr pc (a_ald 2 i) := k_loc (fun f h y e => by unfold a_ald at e; split at e <;> cases e) (by
  intro l st h f' h' e
  unfold a_ald at e
  split at e
  · rename_i x hx
    cases e
    refine ⟨rfl, fun dd p l0 e R s m args below meth c D g A n n0 a0 c0 s0 cE sE Q hdd C a ls H locs cells slots hl hq h1 h2 k => ?_⟩
    exact lv_aload C.1 C.2.1 hd (jlv_at hl hx) (k ls hl)
  · cases e)
theorem k_ald_n {n : Fin 4} {i : Nat} (hd : decode cc pc = .ok (.aload_n n, 1)) (hi : (n : Nat) = i) : JOk tab cc own nm nL scr pc (a_ald 1 i) := k_loc (fun f h y e => by unfold a_ald at e; split at e <;> cases e) (by
  intro l st h f' h' e
  unfold a_ald at e
  split at e
  · rename_i x hx
    cases e
    refine ⟨rfl, fun dd p l0 e R s m args below meth c D g A n n0 a0 c0 s0 cE sE Q hdd C a ls H locs cells slots hl hq h1 h2 k => ?_⟩
    exact lv_aload_n C.1 C.2.1 hd hi (jlv_at hl hx) (k ls hl)
  · cases e)
theorem k_lld {i : Nat} (hd : decode cc pc = .ok (.lload i, 2)) : JOk tab cc own nm nL scr pc (a_lld 2 i) := k_loc (fun f h y e => by unfold a_lld at e; split at e <;> cases e) (by
  intro l st h f' h' e
  unfold a_lld at e
  split at e
  · rename_i x hx
    cases e
    refine ⟨rfl, fun dd p l0 e R s m args below meth c D g A n n0 a0 c0 s0 cE sE Q hdd C a ls H locs cells slots hl hq h1 h2 k => ?_⟩
    exact lv_lload C.1 C.2.1 hd (jlv_at hl hx) (k ls hl)
  · cases e)
theorem k_lld_n {n : Fin 4} {i : Nat} (hd : decode cc pc = .ok (.lload_n n, 1)) (hi : (n : Nat) = i) : JOk tab cc own nm nL scr pc (a_lld 1 i) := k_loc (fun f h y e => by unfold a_lld at e; split at e <;> cases e) (by
  intro l st h f' h' e
  unfold a_lld at e
  split at e
  · rename_i x hx
    cases e
    refine ⟨rfl, fun dd p l0 e R s m args below meth c D g A n n0 a0 c0 s0 cE sE Q hdd C a ls H locs cells slots hl hq h1 h2 k => ?_⟩
    exact lv_lload_n C.1 C.2.1 hd hi (jlv_at hl hx) (k ls hl)
  · cases e)
theorem k_dld {i : Nat} (hd : decode cc pc = .ok (.dload i, 2)) : JOk tab cc own nm nL scr pc (a_dld 2 i) := k_loc (fun f h y e => by unfold a_dld at e; split at e <;> cases e) (by
  intro l st h f' h' e
  unfold a_dld at e
  split at e
  · rename_i x hx
    cases e
    refine ⟨rfl, fun dd p l0 e R s m args below meth c D g A n n0 a0 c0 s0 cE sE Q hdd C a ls H locs cells slots hl hq h1 h2 k => ?_⟩
    exact lv_dload C.1 C.2.1 hd (jlv_at hl hx) (k ls hl)
  · cases e)
theorem k_dld_n {n : Fin 4} {i : Nat} (hd : decode cc pc = .ok (.dload_n n, 1)) (hi : (n : Nat) = i) : JOk tab cc own nm nL scr pc (a_dld 1 i) := k_loc (fun f h y e => by unfold a_dld at e; split at e <;> cases e) (by
  intro l st h f' h' e
  unfold a_dld at e
  split at e
  · rename_i x hx
    cases e
    refine ⟨rfl, fun dd p l0 e R s m args below meth c D g A n n0 a0 c0 s0 cE sE Q hdd C a ls H locs cells slots hl hq h1 h2 k => ?_⟩
    exact lv_dload_n C.1 C.2.1 hd hi (jlv_at hl hx) (k ls hl)
  · cases e)
theorem k_ist {i : Nat} (hd : decode cc pc = .ok (.istore i, 2)) (hi2 : i < nL) : JOk tab cc own nm nL scr pc (a_ist 2 i) := k_loc (fun f h y e => by unfold a_ist at e; split at e <;> cases e) (by
  intro l st h f' h' e
  unfold a_ist at e
  split at e
  · rename_i x r hx
    cases e
    cases hx
    refine ⟨rfl, fun dd p l0 e R s m args below meth c D g A n n0 a0 c0 s0 cE sE Q hdd C a ls H locs cells slots hl hq h1 h2 k => ?_⟩
    exact lv_istore C.1 C.2.1 hd hl (by rw [C.2.2.2.1.2]; exact hi2) (tv_store1 a i (.int x) l) (fun ls' h' => k ls' h')
  · cases e)
theorem k_ist_n {n : Fin 4} {i : Nat} (hd : decode cc pc = .ok (.istore_n n, 1)) (hi : (n : Nat) = i) (hi2 : i < nL) : JOk tab cc own nm nL scr pc (a_ist 1 i) := k_loc (fun f h y e => by unfold a_ist at e; split at e <;> cases e) (by
  intro l st h f' h' e
  unfold a_ist at e
  split at e
  · rename_i x r hx
    cases e
    cases hx
    refine ⟨rfl, fun dd p l0 e R s m args below meth c D g A n n0 a0 c0 s0 cE sE Q hdd C a ls H locs cells slots hl hq h1 h2 k => ?_⟩
    exact lv_istore_n C.1 C.2.1 hd hi hl (by rw [C.2.2.2.1.2]; exact hi2) (tv_store1 a i (.int x) l) (fun ls' h' => k ls' h')
  · cases e)
theorem k_ast {i : Nat} (hd : decode cc pc = .ok (.astore i, 2)) (hi2 : i < nL) : JOk tab cc own nm nL scr pc (a_ast 2 i) := k_loc (fun f h y e => by unfold a_ast at e; split at e <;> cases e) (by
  intro l st h f' h' e
  unfold a_ast at e
  split at e
  · rename_i x r hx
    cases e
    cases hx
    refine ⟨rfl, fun dd p l0 e R s m args below meth c D g A n n0 a0 c0 s0 cE sE Q hdd C a ls H locs cells slots hl hq h1 h2 k => ?_⟩
    exact lv_astore C.1 C.2.1 hd hl (by rw [C.2.2.2.1.2]; exact hi2) (tv_store1 a i (.ref x) l) (fun ls' h' => k ls' h')
  · cases e)
theorem k_ast_n {n : Fin 4} {i : Nat} (hd : decode cc pc = .ok (.astore_n n, 1)) (hi : (n : Nat) = i) (hi2 : i < nL) : JOk tab cc own nm nL scr pc (a_ast 1 i) := k_loc (fun f h y e => by unfold a_ast at e; split at e <;> cases e) (by
  intro l st h f' h' e
  unfold a_ast at e
  split at e
  · rename_i x r hx
    cases e
    cases hx
    refine ⟨rfl, fun dd p l0 e R s m args below meth c D g A n n0 a0 c0 s0 cE sE Q hdd C a ls H locs cells slots hl hq h1 h2 k => ?_⟩
    exact lv_astore_n C.1 C.2.1 hd hi hl (by rw [C.2.2.2.1.2]; exact hi2) (tv_store1 a i (.ref x) l) (fun ls' h' => k ls' h')
  · cases e)
theorem k_lst {i : Nat} (hd : decode cc pc = .ok (.lstore i, 2)) (hi2 : i + 1 < nL) : JOk tab cc own nm nL scr pc (a_lst 2 i) := k_loc (fun f h y e => by unfold a_lst at e; split at e <;> cases e) (by
  intro l st h f' h' e
  unfold a_lst at e
  split at e
  · rename_i x r hx
    cases e
    cases hx
    refine ⟨rfl, fun dd p l0 e R s m args below meth c D g A n n0 a0 c0 s0 cE sE Q hdd C a ls H locs cells slots hl hq h1 h2 k => ?_⟩
    exact lv_lstore C.1 C.2.1 hd hl (by rw [C.2.2.2.1.2]; exact hi2) (tv_store2 a i (.long x) l) (fun ls' h' => k ls' h')
  · cases e)
theorem k_lst_n {n : Fin 4} {i : Nat} (hd : decode cc pc = .ok (.lstore_n n, 1)) (hi : (n : Nat) = i) (hi2 : i + 1 < nL) : JOk tab cc own nm nL scr pc (a_lst 1 i) := k_loc (fun f h y e => by unfold a_lst at e; split at e <;> cases e) (by
  intro l st h f' h' e
  unfold a_lst at e
  split at e
  · rename_i x r hx
    cases e
    cases hx
    refine ⟨rfl, fun dd p l0 e R s m args below meth c D g A n n0 a0 c0 s0 cE sE Q hdd C a ls H locs cells slots hl hq h1 h2 k => ?_⟩
    exact lv_lstore_n C.1 C.2.1 hd hi hl (by rw [C.2.2.2.1.2]; exact hi2) (tv_store2 a i (.long x) l) (fun ls' h' => k ls' h')
  · cases e)
theorem k_dst {i : Nat} (hd : decode cc pc = .ok (.dstore i, 2)) (hi2 : i + 1 < nL) : JOk tab cc own nm nL scr pc (a_dst 2 i) := k_loc (fun f h y e => by unfold a_dst at e; split at e <;> cases e) (by
  intro l st h f' h' e
  unfold a_dst at e
  split at e
  · rename_i x r hx
    cases e
    cases hx
    refine ⟨rfl, fun dd p l0 e R s m args below meth c D g A n n0 a0 c0 s0 cE sE Q hdd C a ls H locs cells slots hl hq h1 h2 k => ?_⟩
    exact lv_dstore C.1 C.2.1 hd hl (by rw [C.2.2.2.1.2]; exact hi2) (tv_store2 a i (.double x) l) (fun ls' h' => k ls' h')
  · cases e)
theorem k_dst_n {n : Fin 4} {i : Nat} (hd : decode cc pc = .ok (.dstore_n n, 1)) (hi : (n : Nat) = i) (hi2 : i + 1 < nL) : JOk tab cc own nm nL scr pc (a_dst 1 i) := k_loc (fun f h y e => by unfold a_dst at e; split at e <;> cases e) (by
  intro l st h f' h' e
  unfold a_dst at e
  split at e
  · rename_i x r hx
    cases e
    cases hx
    refine ⟨rfl, fun dd p l0 e R s m args below meth c D g A n n0 a0 c0 s0 cE sE Q hdd C a ls H locs cells slots hl hq h1 h2 k => ?_⟩
    exact lv_dstore_n C.1 C.2.1 hd hi hl (by rw [C.2.2.2.1.2]; exact hi2) (tv_store2 a i (.double x) l) (fun ls' h' => k ls' h')
  · cases e)
theorem k_iinc {i : Nat} {n : Int} {d : Int32} (hd : decode cc pc = .ok (.iinc i n, 3)) (hn : Int32.ofInt n = d) (hi2 : i < nL) : JOk tab cc own nm nL scr pc (a_iinc i d) := k_loc (fun f h y e => by unfold a_iinc at e; split at e <;> cases e) (by
  intro l st h f' h' e
  unfold a_iinc at e
  split at e
  · rename_i x hx
    cases e
    refine ⟨rfl, fun dd p l0 e R s m args below meth c D g A n n0 a0 c0 s0 cE sE Q hdd C a ls H locs cells slots hl hq h1 h2 k => ?_⟩
    obtain ⟨k0, hk0⟩ := jlv_k (a := a) hx
    exact lv_iinc (v := x + d) C.1 C.2.1 hd hl hk0 (by rw [hn]) (by rw [C.2.2.2.1.2]; exact hi2) (tv_store1 a i (.int (x + d)) l) (fun ls' h' => k ls' h')
  · cases e)
theorem k_goto {off : Int} {t : Nat} (hd : decode cc pc = .ok (.goto off, 3)) (ht : (pc : Int) + off = (t : Int)) : JOk tab cc own nm nL scr pc (a_goto t) := k_loc (fun f h y e => by unfold a_goto at e; cases e) (by
  intro l st h f' h' e
  unfold a_goto at e
  cases e
  refine ⟨rfl, fun dd p l0 e R s m args below meth c D g A n n0 a0 c0 s0 cE sE Q hdd C a ls H locs cells slots hl hq h1 h2 k => ?_⟩
  exact lv_goto C.1 C.2.1 hd ht (k ls hl))
theorem k_ldc2 {i : Nat} {v : Int64} (hd : decode cc pc = .ok (.ldc2_w i, 3)) (hw : Cond.constantLong own i v ∈ GW) : JOk tab cc own nm nL scr pc (a_ldc2 v) := k_loc (fun f h y e => by unfold a_ldc2 at e; cases e) (by
  intro l st h f' h' e
  unfold a_ldc2 at e
  cases e
  refine ⟨rfl, fun dd p l0 e R s m args below meth c D g A n n0 a0 c0 s0 cE sE Q hdd C a ls H locs cells slots hl hq h1 h2 k => ?_⟩
  exact lv_ldc2 C.1 C.2.1 C.2.2.1 (C.2.2.2.2.1 _ hw) hd (k ls hl))
/-! branches -/
def a_br (t : Nat) (sem : List Value → Option (Bool × List Value)) : JA := fun f h => match sem f.2.2 with
  | some (b, st) => some (.inl ((bif b then t else f.1 + 3, f.2.1, st), h))
  | none => none
def b_if_eq : List Value → Option (Bool × List Value) := fun st => match st with
  | .int x :: r => some (decide (x = 0), r)
  | _ => none
theorem k_if_eq {off : Int} {t : Nat} (hd : decode cc pc = .ok (.ifCond .eq off, 3)) (ht : (pc : Int) + off = (t : Int)) : JOk tab cc own nm nL scr pc (a_br t b_if_eq) := k_loc (fun f h y e => by unfold a_br at e; split at e <;> cases e) (by
  intro l st h f' h' e
  unfold a_br b_if_eq at e
  dsimp only at e
  split at e
  · rename_i b st' hs
    cases e
    refine ⟨rfl, fun dd p l0 e R s m args below meth c D g A n n0 a0 c0 s0 cE sE Q hdd C a ls H locs cells slots hl hq h1 h2 k => ?_⟩
    split at hs
    · cases hs
      refine lv_if_eq C.1 C.2.1 hd ht (fun hc => ?_) (fun hc => ?_)
      · have k' := k ls hl
        simp only [decide_eq_true hc, cond_true] at k'
        exact k'
      · have k' := k ls hl
        simp only [decide_eq_false hc, cond_false] at k'
        exact k'
    · cases hs
  · cases e)
def b_icmp_eq : List Value → Option (Bool × List Value) := fun st => match st with
  | .int y :: .int x :: r => some (decide (x = y), r)
  | _ => none
theorem k_icmp_eq {off : Int} {t : Nat} (hd : decode cc pc = .ok (.if_icmp .eq off, 3)) (ht : (pc : Int) + off = (t : Int)) : JOk tab cc own nm nL scr pc (a_br t b_icmp_eq) := k_loc (fun f h y e => by unfold a_br at e; split at e <;> cases e) (by
  intro l st h f' h' e
  unfold a_br b_icmp_eq at e
  dsimp only at e
  split at e
  · rename_i b st' hs
    cases e
    refine ⟨rfl, fun dd p l0 e R s m args below meth c D g A n n0 a0 c0 s0 cE sE Q hdd C a ls H locs cells slots hl hq h1 h2 k => ?_⟩
    split at hs
    · cases hs
      refine lv_icmp_eq C.1 C.2.1 hd ht (fun hc => ?_) (fun hc => ?_)
      · have k' := k ls hl
        simp only [decide_eq_true hc, cond_true] at k'
        exact k'
      · have k' := k ls hl
        simp only [decide_eq_false hc, cond_false] at k'
        exact k'
    · cases hs
  · cases e)
def b_if_ne : List Value → Option (Bool × List Value) := fun st => match st with
  | .int x :: r => some (decide (¬ x = 0), r)
  | _ => none
theorem k_if_ne {off : Int} {t : Nat} (hd : decode cc pc = .ok (.ifCond .ne off, 3)) (ht : (pc : Int) + off = (t : Int)) : JOk tab cc own nm nL scr pc (a_br t b_if_ne) := k_loc (fun f h y e => by unfold a_br at e; split at e <;> cases e) (by
  intro l st h f' h' e
  unfold a_br b_if_ne at e
  dsimp only at e
  split at e
  · rename_i b st' hs
    cases e
    refine ⟨rfl, fun dd p l0 e R s m args below meth c D g A n n0 a0 c0 s0 cE sE Q hdd C a ls H locs cells slots hl hq h1 h2 k => ?_⟩
    split at hs
    · cases hs
      refine lv_if_ne C.1 C.2.1 hd ht (fun hc => ?_) (fun hc => ?_)
      · have k' := k ls hl
        simp only [decide_eq_true hc, cond_true] at k'
        exact k'
      · have k' := k ls hl
        simp only [decide_eq_false (not_not_intro hc), cond_false] at k'
        exact k'
    · cases hs
  · cases e)
def b_icmp_ne : List Value → Option (Bool × List Value) := fun st => match st with
  | .int y :: .int x :: r => some (decide (¬ x = y), r)
  | _ => none
theorem k_icmp_ne {off : Int} {t : Nat} (hd : decode cc pc = .ok (.if_icmp .ne off, 3)) (ht : (pc : Int) + off = (t : Int)) : JOk tab cc own nm nL scr pc (a_br t b_icmp_ne) := k_loc (fun f h y e => by unfold a_br at e; split at e <;> cases e) (by
  intro l st h f' h' e
  unfold a_br b_icmp_ne at e
  dsimp only at e
  split at e
  · rename_i b st' hs
    cases e
    refine ⟨rfl, fun dd p l0 e R s m args below meth c D g A n n0 a0 c0 s0 cE sE Q hdd C a ls H locs cells slots hl hq h1 h2 k => ?_⟩
    split at hs
    · cases hs
      refine lv_icmp_ne C.1 C.2.1 hd ht (fun hc => ?_) (fun hc => ?_)
      · have k' := k ls hl
        simp only [decide_eq_true hc, cond_true] at k'
        exact k'
      · have k' := k ls hl
        simp only [decide_eq_false (not_not_intro hc), cond_false] at k'
        exact k'
    · cases hs
  · cases e)
def b_if_lt : List Value → Option (Bool × List Value) := fun st => match st with
  | .int x :: r => some (decide (x < 0), r)
  | _ => none
theorem k_if_lt {off : Int} {t : Nat} (hd : decode cc pc = .ok (.ifCond .lt off, 3)) (ht : (pc : Int) + off = (t : Int)) : JOk tab cc own nm nL scr pc (a_br t b_if_lt) := k_loc (fun f h y e => by unfold a_br at e; split at e <;> cases e) (by
  intro l st h f' h' e
  unfold a_br b_if_lt at e
  dsimp only at e
  split at e
  · rename_i b st' hs
    cases e
    refine ⟨rfl, fun dd p l0 e R s m args below meth c D g A n n0 a0 c0 s0 cE sE Q hdd C a ls H locs cells slots hl hq h1 h2 k => ?_⟩
    split at hs
    · cases hs
      refine lv_if_lt C.1 C.2.1 hd ht (fun hc => ?_) (fun hc => ?_)
      · have k' := k ls hl
        simp only [decide_eq_true hc, cond_true] at k'
        exact k'
      · have k' := k ls hl
        simp only [decide_eq_false hc, cond_false] at k'
        exact k'
    · cases hs
  · cases e)
def b_icmp_lt : List Value → Option (Bool × List Value) := fun st => match st with
  | .int y :: .int x :: r => some (decide (x < y), r)
  | _ => none
theorem k_icmp_lt {off : Int} {t : Nat} (hd : decode cc pc = .ok (.if_icmp .lt off, 3)) (ht : (pc : Int) + off = (t : Int)) : JOk tab cc own nm nL scr pc (a_br t b_icmp_lt) := k_loc (fun f h y e => by unfold a_br at e; split at e <;> cases e) (by
  intro l st h f' h' e
  unfold a_br b_icmp_lt at e
  dsimp only at e
  split at e
  · rename_i b st' hs
    cases e
    refine ⟨rfl, fun dd p l0 e R s m args below meth c D g A n n0 a0 c0 s0 cE sE Q hdd C a ls H locs cells slots hl hq h1 h2 k => ?_⟩
    split at hs
    · cases hs
      refine lv_icmp_lt C.1 C.2.1 hd ht (fun hc => ?_) (fun hc => ?_)
      · have k' := k ls hl
        simp only [decide_eq_true hc, cond_true] at k'
        exact k'
      · have k' := k ls hl
        simp only [decide_eq_false hc, cond_false] at k'
        exact k'
    · cases hs
  · cases e)
def b_if_ge : List Value → Option (Bool × List Value) := fun st => match st with
  | .int x :: r => some (decide (0 ≤ x), r)
  | _ => none
theorem k_if_ge {off : Int} {t : Nat} (hd : decode cc pc = .ok (.ifCond .ge off, 3)) (ht : (pc : Int) + off = (t : Int)) : JOk tab cc own nm nL scr pc (a_br t b_if_ge) := k_loc (fun f h y e => by unfold a_br at e; split at e <;> cases e) (by
  intro l st h f' h' e
  unfold a_br b_if_ge at e
  dsimp only at e
  split at e
  · rename_i b st' hs
    cases e
    refine ⟨rfl, fun dd p l0 e R s m args below meth c D g A n n0 a0 c0 s0 cE sE Q hdd C a ls H locs cells slots hl hq h1 h2 k => ?_⟩
    split at hs
    · cases hs
      refine lv_if_ge C.1 C.2.1 hd ht (fun hc => ?_) (fun hc => ?_)
      · have k' := k ls hl
        simp only [decide_eq_true hc, cond_true] at k'
        exact k'
      · have k' := k ls hl
        simp only [decide_eq_false hc, cond_false] at k'
        exact k'
    · cases hs
  · cases e)
def b_icmp_ge : List Value → Option (Bool × List Value) := fun st => match st with
  | .int y :: .int x :: r => some (decide (y ≤ x), r)
  | _ => none
theorem k_icmp_ge {off : Int} {t : Nat} (hd : decode cc pc = .ok (.if_icmp .ge off, 3)) (ht : (pc : Int) + off = (t : Int)) : JOk tab cc own nm nL scr pc (a_br t b_icmp_ge) := k_loc (fun f h y e => by unfold a_br at e; split at e <;> cases e) (by
  intro l st h f' h' e
  unfold a_br b_icmp_ge at e
  dsimp only at e
  split at e
  · rename_i b st' hs
    cases e
    refine ⟨rfl, fun dd p l0 e R s m args below meth c D g A n n0 a0 c0 s0 cE sE Q hdd C a ls H locs cells slots hl hq h1 h2 k => ?_⟩
    split at hs
    · cases hs
      refine lv_icmp_ge C.1 C.2.1 hd ht (fun hc => ?_) (fun hc => ?_)
      · have k' := k ls hl
        simp only [decide_eq_true hc, cond_true] at k'
        exact k'
      · have k' := k ls hl
        simp only [decide_eq_false hc, cond_false] at k'
        exact k'
    · cases hs
  · cases e)
def b_if_gt : List Value → Option (Bool × List Value) := fun st => match st with
  | .int x :: r => some (decide (0 < x), r)
  | _ => none
theorem k_if_gt {off : Int} {t : Nat} (hd : decode cc pc = .ok (.ifCond .gt off, 3)) (ht : (pc : Int) + off = (t : Int)) : JOk tab cc own nm nL scr pc (a_br t b_if_gt) := k_loc (fun f h y e => by unfold a_br at e; split at e <;> cases e) (by
  intro l st h f' h' e
  unfold a_br b_if_gt at e
  dsimp only at e
  split at e
  · rename_i b st' hs
    cases e
    refine ⟨rfl, fun dd p l0 e R s m args below meth c D g A n n0 a0 c0 s0 cE sE Q hdd C a ls H locs cells slots hl hq h1 h2 k => ?_⟩
    split at hs
    · cases hs
      refine lv_if_gt C.1 C.2.1 hd ht (fun hc => ?_) (fun hc => ?_)
      · have k' := k ls hl
        simp only [decide_eq_true hc, cond_true] at k'
        exact k'
      · have k' := k ls hl
        simp only [decide_eq_false hc, cond_false] at k'
        exact k'
    · cases hs
  · cases e)
def b_icmp_gt : List Value → Option (Bool × List Value) := fun st => match st with
  | .int y :: .int x :: r => some (decide (y < x), r)
  | _ => none
theorem k_icmp_gt {off : Int} {t : Nat} (hd : decode cc pc = .ok (.if_icmp .gt off, 3)) (ht : (pc : Int) + off = (t : Int)) : JOk tab cc own nm nL scr pc (a_br t b_icmp_gt) := k_loc (fun f h y e => by unfold a_br at e; split at e <;> cases e) (by
  intro l st h f' h' e
  unfold a_br b_icmp_gt at e
  dsimp only at e
  split at e
  · rename_i b st' hs
    cases e
    refine ⟨rfl, fun dd p l0 e R s m args below meth c D g A n n0 a0 c0 s0 cE sE Q hdd C a ls H locs cells slots hl hq h1 h2 k => ?_⟩
    split at hs
    · cases hs
      refine lv_icmp_gt C.1 C.2.1 hd ht (fun hc => ?_) (fun hc => ?_)
      · have k' := k ls hl
        simp only [decide_eq_true hc, cond_true] at k'
        exact k'
      · have k' := k ls hl
        simp only [decide_eq_false hc, cond_false] at k'
        exact k'
    · cases hs
  · cases e)
def b_if_le : List Value → Option (Bool × List Value) := fun st => match st with
  | .int x :: r => some (decide (x ≤ 0), r)
  | _ => none
theorem k_if_le {off : Int} {t : Nat} (hd : decode cc pc = .ok (.ifCond .le off, 3)) (ht : (pc : Int) + off = (t : Int)) : JOk tab cc own nm nL scr pc (a_br t b_if_le) := k_loc (fun f h y e => by unfold a_br at e; split at e <;> cases e) (by
  intro l st h f' h' e
  unfold a_br b_if_le at e
  dsimp only at e
  split at e
  · rename_i b st' hs
    cases e
    refine ⟨rfl, fun dd p l0 e R s m args below meth c D g A n n0 a0 c0 s0 cE sE Q hdd C a ls H locs cells slots hl hq h1 h2 k => ?_⟩
    split at hs
    · cases hs
      refine lv_if_le C.1 C.2.1 hd ht (fun hc => ?_) (fun hc => ?_)
      · have k' := k ls hl
        simp only [decide_eq_true hc, cond_true] at k'
        exact k'
      · have k' := k ls hl
        simp only [decide_eq_false hc, cond_false] at k'
        exact k'
    · cases hs
  · cases e)
def b_icmp_le : List Value → Option (Bool × List Value) := fun st => match st with
  | .int y :: .int x :: r => some (decide (x ≤ y), r)
  | _ => none
theorem k_icmp_le {off : Int} {t : Nat} (hd : decode cc pc = .ok (.if_icmp .le off, 3)) (ht : (pc : Int) + off = (t : Int)) : JOk tab cc own nm nL scr pc (a_br t b_icmp_le) := k_loc (fun f h y e => by unfold a_br at e; split at e <;> cases e) (by
  intro l st h f' h' e
  unfold a_br b_icmp_le at e
  dsimp only at e
  split at e
  · rename_i b st' hs
    cases e
    refine ⟨rfl, fun dd p l0 e R s m args below meth c D g A n n0 a0 c0 s0 cE sE Q hdd C a ls H locs cells slots hl hq h1 h2 k => ?_⟩
    split at hs
    · cases hs
      refine lv_icmp_le C.1 C.2.1 hd ht (fun hc => ?_) (fun hc => ?_)
      · have k' := k ls hl
        simp only [decide_eq_true hc, cond_true] at k'
        exact k'
      · have k' := k ls hl
        simp only [decide_eq_false hc, cond_false] at k'
        exact k'
    · cases hs
  · cases e)
/-! switches over 0, 1, .. -/
def a_sw (ts : List Nat) (d : Nat) : JA := fun f h => match f.2.2 with
  | .int x :: r => some (.inl ((if x < 0 then d else ts.getD x.toNatClampNeg d, f.2.1, r), h))
  | _ => none
theorem j_clamp {x : Int32} (h : ¬ x < 0) : x.toInt = (x.toNatClampNeg : Int) := by
  have hz0 : (0 : Int) ≤ x.toInt := by
    have := Int32.not_lt.mp h
    simpa using Int32.le_iff_toInt_le.mp this
  show x.toInt = ((x.toInt.toNat : Nat) : Int)
  omega
theorem k_tsw {dflt : Int} {offs : Array Int} {hi : Int} {len d : Nat} {ts : List Nat} (hd : decode cc pc = .ok (.tableswitch dflt 0 hi offs, len)) (hdf : (pc : Int) + dflt = (d : Int)) (hhi : hi + 1 = (ts.length : Int)) (hts : offs.toList.map (fun o => (pc : Int) + o) = ts.map (fun t : Nat => (t : Int))) : JOk tab cc own nm nL scr pc (a_sw ts d) := k_loc (fun f h y e => by unfold a_sw at e; split at e <;> cases e) (by
  intro l st h f' h' e
  unfold a_sw at e
  split at e
  · rename_i x r hx
    cases e
    cases hx
    refine ⟨rfl, fun dd p l0 e R s m args below meth c D g A n n0 a0 c0 s0 cE sE Q hdd C a ls H locs cells slots hl hq h1 h2 k => ?_⟩
    have k' := k ls hl
    dsimp only at k'
    by_cases h0 : x < 0
    · rw [if_pos h0] at k'
      refine lv_tableOut C.1 C.2.1 hd (Or.inl ?_) hdf k'
      have := Int32.lt_iff_toInt_lt.mp h0
      simpa using this
    · rw [if_neg h0] at k'
      have hc := j_clamp h0
      by_cases h9 : x.toNatClampNeg < ts.length
      · have e9 : ts.getD x.toNatClampNeg d = ts[x.toNatClampNeg] := by rw [List.getD_eq_getElem?_getD, List.getElem?_eq_getElem h9]; rfl
        rw [e9] at k'
        have hl9 : offs.toList.length = ts.length := by
          have := congrArg List.length hts
          simpa using this
        have ho : x.toNatClampNeg < offs.toList.length := by omega
        refine lv_tableIn (off := offs.toList[x.toNatClampNeg]) C.1 C.2.1 hd (by omega) (by omega) (by
          rw [show (x.toInt - 0).toNat = x.toNatClampNeg by omega, ← Array.getElem?_toList, List.getElem?_eq_getElem ho]) ?_ k'
        have h8 : (offs.toList.map (fun o => (pc : Int) + o))[x.toNatClampNeg]? = (ts.map (fun t : Nat => (t : Int)))[x.toNatClampNeg]? := by rw [hts]
        rw [List.getElem?_map, List.getElem?_map, List.getElem?_eq_getElem ho, List.getElem?_eq_getElem h9] at h8
        exact Option.some.inj h8
      · rw [List.getD_eq_getElem?_getD, List.getElem?_eq_none (by omega)] at k'
        exact lv_tableOut C.1 C.2.1 hd (Or.inr (by omega)) hdf k'
  · cases e)
theorem k_tswL {dflt : Int} {offs : Array Int} {hi : Int} {lo len d : Nat} {ts tl : List Nat} (hd : decode cc pc = .ok (.tableswitch dflt (lo : Int) hi offs, len)) (hdf : (pc : Int) + dflt = (d : Int)) (hhi : hi + 1 = (ts.length : Int)) (htl : ts = List.replicate lo d ++ tl) (hts : offs.toList.map (fun o => (pc : Int) + o) = tl.map (fun t : Nat => (t : Int))) : JOk tab cc own nm nL scr pc (a_sw ts d) := k_loc (fun f h y e => by unfold a_sw at e; split at e <;> cases e) (by
  intro l st h f' h' e
  unfold a_sw at e
  split at e
  · rename_i x r hx
    cases e
    cases hx
    refine ⟨rfl, fun dd p l0 e R s m args below meth c D g A n n0 a0 c0 s0 cE sE Q hdd C a ls H locs cells slots hl hq h1 h2 k => ?_⟩
    have k' := k ls hl
    dsimp only at k'
    by_cases h0 : x < 0
    · rw [if_pos h0] at k'
      refine lv_tableOut C.1 C.2.1 hd (Or.inl ?_) hdf k'
      have := Int32.lt_iff_toInt_lt.mp h0
      have h00 : (0 : Int32).toInt = 0 := rfl
      omega
    · rw [if_neg h0] at k'
      have hc := j_clamp h0
      have hlen : ts.length = lo + tl.length := by rw [htl]; simp
      by_cases h8 : x.toNatClampNeg < lo
      · have e9 : ts.getD x.toNatClampNeg d = d := by
          rw [htl, List.getD_eq_getElem?_getD, List.getElem?_append_left (by simpa using h8), List.getElem?_replicate, if_pos h8]
          rfl
        rw [e9] at k'
        exact lv_tableOut C.1 C.2.1 hd (Or.inl (by omega)) hdf k'
      · by_cases h9 : x.toNatClampNeg - lo < tl.length
        · have e9 : ts.getD x.toNatClampNeg d = tl[x.toNatClampNeg - lo] := by
            rw [htl, List.getD_eq_getElem?_getD, List.getElem?_append_right (by simp; omega), List.length_replicate, List.getElem?_eq_getElem h9]
            rfl
          rw [e9] at k'
          have hl9 : offs.toList.length = tl.length := by
            have := congrArg List.length hts
            simpa using this
          have ho : x.toNatClampNeg - lo < offs.toList.length := by omega
          refine lv_tableIn (off := offs.toList[x.toNatClampNeg - lo]) C.1 C.2.1 hd (by omega) (by omega) (by
            rw [show (x.toInt - (lo : Int)).toNat = x.toNatClampNeg - lo by omega, ← Array.getElem?_toList, List.getElem?_eq_getElem ho]) ?_ k'
          have h8 : (offs.toList.map (fun o => (pc : Int) + o))[x.toNatClampNeg - lo]? = (tl.map (fun t : Nat => (t : Int)))[x.toNatClampNeg - lo]? := by rw [hts]
          rw [List.getElem?_map, List.getElem?_map, List.getElem?_eq_getElem ho, List.getElem?_eq_getElem h9] at h8
          exact Option.some.inj h8
        · rw [List.getD_eq_getElem?_getD, List.getElem?_eq_none (by omega)] at k'
          exact lv_tableOut C.1 C.2.1 hd (Or.inr (by omega)) hdf k'
  · cases e)
theorem k_lsw2 {dflt o0 o1 : Int} {len d t0 t1 : Nat} (hd : decode cc pc = .ok (.lookupswitch dflt #[(0, o0), (1, o1)], len)) (hdf : (pc : Int) + dflt = (d : Int)) (h0 : (pc : Int) + o0 = (t0 : Int)) (h1 : (pc : Int) + o1 = (t1 : Int)) : JOk tab cc own nm nL scr pc (a_sw [t0, t1] d) := k_loc (fun f h y e => by unfold a_sw at e; split at e <;> cases e) (by
  intro l st h f' h' e
  unfold a_sw at e
  split at e
  · rename_i x r hx
    cases e
    cases hx
    refine ⟨rfl, fun dd p l0 e R s m args below meth c D g A n n0 a0 c0 s0 cE sE Q hdd C a ls H locs cells slots hl hq g1 g2 k => ?_⟩
    have k' := k ls hl
    dsimp only at k'
    by_cases c0 : x = 0
    · subst c0
      exact lv_lookup (off := o0) (tgt := t0) C.1 C.2.1 hd (by simp) (by simp [Op.lookupswitch.offset]) h0 k'
    · by_cases c1 : x = 1
      · subst c1
        exact lv_lookup (off := o1) (tgt := t1) C.1 C.2.1 hd (by simp) (by simp [Op.lookupswitch.offset]) h1 k'
      · have e9 : (if x < 0 then d else [t0, t1].getD x.toNatClampNeg d) = d := by
          by_cases hn : x < 0
          · rw [if_pos hn]
          · rw [if_neg hn]
            have hc := j_clamp hn
            have n0 : x.toNatClampNeg ≠ 0 := fun q => c0 (Int32.toInt_inj.mp (by rw [hc, q]; rfl))
            have n1 : x.toNatClampNeg ≠ 1 := fun q => c1 (Int32.toInt_inj.mp (by rw [hc, q]; rfl))
            rw [List.getD_eq_getElem?_getD, List.getElem?_eq_none (by simp; omega)]
            rfl
        rw [e9] at k'
        exact lv_lookup (off := dflt) (tgt := d) C.1 C.2.1 hd (by simp) (by rw [lv_osw c0 (by rfl), lv_osw c1 (by rfl)]; rfl) hdf k'
  · cases e)
end JOPS
end
section
/-! actions on the heap -/
theorem va_P1 {D : va_G} {cl : List vw_C} {x : Nat × va_E} {H : Heap} (h : va_at D cl x H) : va_P D cl [x] H := fun k q hk => by
  have hz : k < 1 := (List.getElem?_eq_some_iff.mp hk).1
  rw [show k = 0 by omega] at hk
  cases hk
  exact h
section JHEAP
theorem jR.ok {D : va_G} {g : Nat → ClassId} {a : Nat → Nat} {n : Nat} {M : JM} {H : Heap} (h : jR D g a n M H) {q : Nat} (hne : M q ≠ .inr (99, [])) : 0 < q ∧ q < n := by
  obtain ⟨-, -, -, -, h5⟩ := h
  rcases Nat.lt_or_ge 0 q with h1 | h1
  · rcases Nat.lt_or_ge q n with h2 | h2
    · exact ⟨h1, h2⟩
    · exact absurd (h5 q (Or.inr h2)) hne
  · exact absurd (h5 q (Or.inl (by omega))) hne
theorem jR.okr {D : va_G} {g : Nat → ClassId} {a : Nat → Nat} {n : Nat} {M : JM} {H : Heap} (h : jR D g a n M H) {q ci : Nat} {fs : List Value} (hM : M q = .inr (ci, fs)) (hc : ci < 99) : 0 < q ∧ q < n :=
  h.ok (by rw [hM]; intro e; cases e; omega)
theorem jR.okl {D : va_G} {g : Nat → ClassId} {a : Nat → Nat} {n : Nat} {M : JM} {H : Heap} (h : jR D g a n M H) {q t : Nat} {y : vp_A} (hM : M q = .inl (t, y)) : 0 < q ∧ q < n :=
  h.ok (by rw [hM]; intro e; cases e)
theorem jR.set {D : va_G} {g : Nat → ClassId} {a : Nat → Nat} {n : Nat} {M : JM} {H H1 : Heap} (h : jR D g a n M H) {q : Nat} (h0 : 0 < q) (hq : q < n) {c : JC} (hc : jwf n c) (hat : va_at D vwCl (a q, te g a c) H1) (ho : ∀ x : Nat, x ≠ a q → H1[x]? = H[x]?) : jR D g a n (va_up M q c) H1 := by
  obtain ⟨h1, h2, h3, h4, h5⟩ := h
  refine ⟨fun r hr hr2 => ?_, h2, fun r hr hr2 => ?_, h4, fun r hr => ?_⟩
  · by_cases e : r = q
    · subst e
      rw [va_up_self]
      exact hat
    · rw [va_up_ne _ _ e]
      exact (h1 r hr hr2).kept (ho _ (fun e2 => e (h2 r q hr hr2 h0 hq e2)))
  · by_cases e : r = q
    · subst e
      rw [va_up_self]
      exact hc
    · rw [va_up_ne _ _ e]
      exact h3 r hr hr2
  · rw [va_up_ne _ _ (by omega)]
    exact h5 r hr
/-- the cells of a run lie where it may write -/
theorem jQ.inA {cc : ByteArray} {own : String} {nm : String × List (Nat × Nat × Nat × Nat)} {nL dd : Nat} {scr : Option (Nat × (Nat → Int32))} {p : Program} {l : Launch} {e : Env} {R : Room} {s : State} {m : MethodId} {args : Array Value} {below : List Frame} {meth : Method} {c : Code} {D : va_G} {g : Nat → ClassId} {A : Nat → Prop} {n n0 : Nat} {a0 : Nat → Nat} {c0 s0 cE sE : Nat} {Q : State → Prop}
    (C : jC cc own nm nL dd scr ((p, l, e, R, s), (m, args, below, meth, c), (D, g), (A, n, n0, a0), (c0, s0, cE, sE), Q)) {a : Nat → Nat} {h : JH} {H : Heap} {locs : List Loc} {cells slots : Nat}
    (hq : jQ ((p, l, e, R, s), (m, args, below, meth, c), (D, g), (A, n, n0, a0), (c0, s0, cE, sE), Q) a h H locs cells slots) {q : Nat} (h0 : 0 < q) (h1 : q < h.1) : A (a q) := by
  obtain ⟨-, -, -, -, -, -, -, -, ⟨hA, hB⟩, -⟩ := C
  obtain ⟨-, -, k1, -, k2, -⟩ := hq
  rcases Nat.lt_or_ge q n0 with hl | hl
  · rw [k1 q hl]
    exact hA q h0 hl
  · exact hB _ (k2 q hl h1)
/-- a write into one cell -/
theorem jQ.put {cc : ByteArray} {own : String} {nm : String × List (Nat × Nat × Nat × Nat)} {nL dd : Nat} {scr : Option (Nat × (Nat → Int32))} {p : Program} {l : Launch} {e : Env} {R : Room} {s : State} {m : MethodId} {args : Array Value} {below : List Frame} {meth : Method} {c : Code} {D : va_G} {g : Nat → ClassId} {A : Nat → Prop} {n n0 : Nat} {a0 : Nat → Nat} {c0 s0 cE sE : Nat} {Q : State → Prop}
    (C : jC cc own nm nL dd scr ((p, l, e, R, s), (m, args, below, meth, c), (D, g), (A, n, n0, a0), (c0, s0, cE, sE), Q)) {a : Nat → Nat} {h : JH} {H H1 : Heap} {locs locs1 : List Loc} {cells slots : Nat}
    (hq : jQ ((p, l, e, R, s), (m, args, below, meth, c), (D, g), (A, n, n0, a0), (c0, s0, cE, sE), Q) a h H locs cells slots) {q : Nat} (h0 : 0 < q) (h1 : q < h.1) {y : JC} (hy : jwf h.1 y) (hat : va_at D vwCl (a q, te g a y) H1) (hz : H1.size = H.size) (ho : ∀ x : Nat, x ≠ a q → H1[x]? = H[x]?)
    (hl : ∀ z ∈ locs1, z ∈ locs ∨ z.base = a q) :
    jQ ((p, l, e, R, s), (m, args, below, meth, c), (D, g), (A, n, n0, a0), (c0, s0, cE, sE), Q) a (h.1, h.2.1, h.2.2.1, va_up h.2.2.2 q y) H1 locs1 cells slots := by
  have hA := hq.inA C h0 h1
  obtain ⟨k0, ⟨k1, k2, k3⟩, k4⟩ := hq
  refine ⟨k0.set h0 h1 hy hat ho, ⟨by rw [hz]; exact k1, fun x hx hxA => ?_, fun z hz => ?_⟩, k4⟩
  · rw [ho x (fun e => hxA (by rw [e]; exact hA))]
    exact k2 x hx hxA
  · rcases hl z hz with h9 | h9
    · exact k3 z h9
    · rw [h9]; exact hA
variable {p : Program} {l : Launch} {e : Env} {R : Room} {s : State} {m : MethodId} {args : Array Value} {below : List Frame} {meth : Method} {c : Code} {H : Heap} {locs : List Loc} {cells slots : Nat} {Q : State → Prop}
variable {cc : ByteArray} {pc : Nat} {ls : Array Slot} {rest : List Value} {D : va_G} {a : Nat} {tys : List (ClassId × FieldType)}
/-- putfield, by the cell alone -/
theorem jw_put (hexec : p.tables.exec = Jvm.exec) (hb : c.code = cc) {own C : String} {T : u_T} {N ci index : Nat} (hts : ∀ w ∈ GW, w.before args s = true) (hin : ∀ w ∈ u_ws C T N, w ∈ GW) (ty0 : Nat → FieldType) (hty : ∀ k, k < N → parseFieldDescriptor (T k).2.2.1 = some (ty0 k)) (hnm : ∀ a, a < N → ∀ b, b < N → a ≠ b → (T a).2.1 ≠ (T b).2.1) (hown : s.vm.findClass own = some m.cls) (hK : va_K D vwCl tys s) {fs : List Value} (he : va_at D vwCl (a, .inr (ci, fs)) H) (hc : vwCl[ci]? = some (C, T, N)) (k : Nat) (hk : k < N) (hlink : (Cond.fieldLink own index (T k).1 (T k).2.1 (T k).2.2.1).before args s = true) (hfin : (T k).2.2.2 = false) {ty : FieldType} {v : Value} (hd : parseFieldDescriptor (T k).2.2.1 = some ty) (hn : narrow ty v = v) (hfit : fits ty v = true) (hl : k < fs.length)
    (hdg : decode cc pc = .ok (.putfield index, 3)) (kk : ∀ (H1 : Heap) (i : Nat), va_at D vwCl (a, .inr (ci, fs.set k v)) H1 → H1.size = H.size → (∀ q : Nat, q ≠ a → H1[q]? = H[q]?) → W p l e R s m args below meth c H1 (locs ++ [⟨a, i⟩]) cells slots Q (F0 m (pc + 3) ls rest)) : W p l e R s m args below meth c H locs cells slots Q (F0 m pc ls (v :: .ref a :: rest)) := by
  have hap := va_apart (own := own) hts hin ty0 hty hnm hK hc
  obtain ⟨r, h1, cell, q1, q2, q3, q4⟩ := he
  have hr : r = (C, T, N) := Option.some.inj (h1.symm.trans hc)
  subst hr
  obtain ⟨hS, hfc, kC, hkC, hkind⟩ := hK.1 ci _ hc
  obtain ⟨cf, kf, fi, f, hi, hsl⟩ := hS k hk
  have hlay := hts _ (hin _ (u_in_lay hk))
  unfold u_lay at hlay
  rw [if_neg (by rw [hfin]; decide)] at hlay
  have hst := (u_facts hfc hkC (u_lays hts hin hk) hi).1
  have h6 := u_store hfc hkC hkind hlay hi hd hn hfit
  refine W.putK hexec hb (f := f) ⟨hown, hlink, ⟨_, _, _, hi⟩, hst⟩ (by rw [q2]; exact h6) q1 q3 (by rw [hsl]; exact k2_hasslot (q4 k hk)) rfl rfl hdg fun H' e1 e2 e3 => ?_
  rw [hsl] at e1 ⊢
  exact kk H' _ ⟨_, hc, t_OB.to (V := updV (vp_V fs) k v) ⟨_, e1, q2, q3, t_set q4 hap hk v⟩ (fun j _ => vp_updV_set hl v j)⟩ e2 e3
/-- .. of a final field, in its constructor -/
theorem jw_putF (hexec : p.tables.exec = Jvm.exec) (hb : c.code = cc) {own C : String} {T : u_T} {N ci index : Nat} (hts : ∀ w ∈ GW, w.before args s = true) (hin : ∀ w ∈ u_ws C T N, w ∈ GW) (ty0 : Nat → FieldType) (hty : ∀ k, k < N → parseFieldDescriptor (T k).2.2.1 = some (ty0 k)) (hnm : ∀ a, a < N → ∀ b, b < N → a ≠ b → (T a).2.1 ≠ (T b).2.1) (hown : s.vm.findClass own = some m.cls) (hK : va_K D vwCl tys s) {fs : List Value} (he : va_at D vwCl (a, .inr (ci, fs)) H) (hc : vwCl[ci]? = some (C, T, N)) (k : Nat) (hk : k < N) (hlink : (Cond.fieldLink own index (T k).1 (T k).2.1 (T k).2.2.1).before args s = true) (hfin : (T k).2.2.2 = true) (hin2 : meth.name = "<init>") (hdecl : (T k).1 = own) {ty : FieldType} {v : Value} (hd : parseFieldDescriptor (T k).2.2.1 = some ty) (hn : narrow ty v = v) (hfit : fits ty v = true) (hl : k < fs.length)
    (hdg : decode cc pc = .ok (.putfield index, 3)) (kk : ∀ (H1 : Heap) (i : Nat), va_at D vwCl (a, .inr (ci, fs.set k v)) H1 → H1.size = H.size → (∀ q : Nat, q ≠ a → H1[q]? = H[q]?) → W p l e R s m args below meth c H1 (locs ++ [⟨a, i⟩]) cells slots Q (F0 m (pc + 3) ls rest)) : W p l e R s m args below meth c H locs cells slots Q (F0 m pc ls (v :: .ref a :: rest)) := by
  have hap := va_apart (own := own) hts hin ty0 hty hnm hK hc
  obtain ⟨r, h1, cell, q1, q2, q3, q4⟩ := he
  have hr : r = (C, T, N) := Option.some.inj (h1.symm.trans hc)
  subst hr
  obtain ⟨hS, hfc, kC, hkC, hkind⟩ := hK.1 ci _ hc
  obtain ⟨cf, kf, fi, f, hi, hsl⟩ := hS k hk
  have hlay := hts _ (hin _ (u_in_lay hk))
  unfold u_lay at hlay
  rw [if_pos hfin] at hlay
  have hst := (u_facts hfc hkC (u_lays hts hin hk) hi).1
  have hcf : m.cls = cf := by
    obtain ⟨_, _, c', _, _, _, -, -, hf', -, -, -, hown2, -⟩ := Cond.laysFinal_spec hlay
    have e1 : c' = cf := by have := hi.symm.trans hf'; simp at this; exact this.1.symm
    rw [hdecl] at hown2
    rw [← e1]; exact Option.some.inj (hown.symm.trans hown2)
  have h6 := u_fits hfc hkC hkind (Or.inr hlay) hi hd hn hfit
  refine W.putFinK hexec hb hown hlink hi hst hcf hin2 (by rw [q2]; exact h6) q1 q3 (by rw [hsl]; exact k2_hasslot (q4 k hk)) rfl rfl hdg fun H' e1 e2 e3 => ?_
  rw [hsl] at e1 ⊢
  exact kk H' _ ⟨_, hc, t_OB.to (V := updV (vp_V fs) k v) ⟨_, e1, q2, q3, t_set q4 hap hk v⟩ (fun j _ => vp_updV_set hl v j)⟩ e2 e3
end JHEAP
end
section
section JHO
variable {tab : Nat → JM5} {cc : ByteArray} {own : String} {nm : String × List (Nat × Nat × Nat × Nat)} {nL : Nat} {scr : Option (Nat × (Nat → Int32))} {pc : Nat}
/-- an index in its row -/
def jin (i : Int32) (n : Nat) : Bool := !(decide (i < 0) || decide (n ≤ i.toNatClampNeg))
theorem jin_of {i : Int32} {n : Nat} (h : jin i n = true) : vp_in i n := by
  unfold jin at h
  intro q
  rcases q with q | q
  · rw [decide_eq_true q] at h
    simp at h
  · rw [decide_eq_true q] at h
    simp at h
theorem jin_mk {i : Int32} {n : Nat} (h : vp_in i n) : jin i n = true := by
  unfold jin
  rw [decide_eq_false (fun q => h (Or.inl q)), decide_eq_false (fun q => h (Or.inr q))]
  rfl
theorem jin_nI {k n : Nat} (h : k < n) (hn : n < 2 ^ 31) : jin (nI k) n = true := jin_mk (vp_in_nI h hn)
def a_getf (ci k : Nat) : JA := fun f h => match f.2.2 with
  | .ref q :: r => match h.2.2.2 q with
    | .inr (c, fs) => if c = ci then (match fs[k]? with
      | some v => some (.inl ((f.1 + 3, f.2.1, v :: r), h))
      | none => none) else none
    | _ => none
  | _ => none
theorem a_getf_no {ci k : Nat} : ∀ (f : JF) (h : JH) y, a_getf ci k f h ≠ some (.inr y) := by
  intro f h y e
  unfold a_getf at e
  split at e
  · split at e
    · split at e
      · split at e <;> cases e
      · cases e
    · cases e
  · cases e
theorem k_getf {ci k idx N : Nat} {C : String} {T : u_T} (hd : decode cc pc = .ok (.getfield idx, 3)) (hc : vwCl[ci]? = some (C, T, N)) (hin : ∀ w ∈ u_ws C T N, w ∈ GW) (hk : k < N) (hw : Cond.fieldLink own idx (T k).1 (T k).2.1 (T k).2.2.1 ∈ GW) (h99 : ci < 99) : JOk tab cc own nm nL scr pc (a_getf ci k) := k_loc a_getf_no (by
  intro l st h f' h' e
  unfold a_getf at e
  split at e
  · rename_i q r hst
    split at e
    · rename_i cx fs hM
      split at e
      · rename_i hcc
        subst hcc
        split at e
        · rename_i v hv
          cases e
          cases hst
          refine ⟨rfl, fun dd p l0 e R s m args below meth c D g A n n0 a0 c0 s0 cE sE Q hdd C0 a ls H locs cells slots hl hq h1 h2 k2 => ?_⟩
          obtain ⟨g1, g2⟩ := hq.1.okr hM h99
          have hat := hq.1.1 q g1 g2
          rw [hM] at hat
          exact va_get (ref := (T k).1) (ci := cx) (v := tv a v) C0.1 C0.2.1 C0.2.2.2.2.1 hin C0.2.2.1 C0.2.2.2.2.2.1.1 (va_P1 hat) 0 rfl hc k hk (C0.2.2.2.2.1 _ hw) (fun _ h9 => h9) (by
            show (fs.map (tv a))[k]? = _
            rw [List.getElem?_map, hv]
            rfl) hd (k2 ls hl)
        · cases e
      · cases e
    · cases e
  · cases e)
/-! reading a row -/
def a_iald (t : Nat) : JA := fun f h => match f.2.2 with
  | .int i :: .ref q :: r => match h.2.2.2 q with
    | .inl (t', n, .inl xs) => if t' = t ∧ jin i n = true then some (.inl ((f.1 + 1, f.2.1, .int (xs i.toNatClampNeg) :: r), h)) else none
    | _ => none
  | _ => none
def a_lald : JA := fun f h => match f.2.2 with
  | .int i :: .ref q :: r => match h.2.2.2 q with
    | .inl (t', n, .inr (.inl xs)) => if t' = 2 ∧ jin i n = true then some (.inl ((f.1 + 1, f.2.1, .long (xs i.toNatClampNeg) :: r), h)) else none
    | _ => none
  | _ => none
def a_aald (t : Nat) : JA := fun f h => match f.2.2 with
  | .int i :: .ref q :: r => match h.2.2.2 q with
    | .inl (t', n, .inr (.inr (.inr (.inr xs)))) => if t' = t ∧ jin i n = true then some (.inl ((f.1 + 1, f.2.1, va_rf (xs i.toNatClampNeg) :: r), h)) else none
    | _ => none
  | _ => none
theorem k_iald (hd : decode cc pc = .ok (.iaload, 1)) : JOk tab cc own nm nL scr pc (a_iald 0) := k_loc (fun f h y e => by
  unfold a_iald at e
  split at e
  · split at e
    · split at e <;> cases e
    · cases e
  · cases e) (by
  intro l st h f' h' e
  unfold a_iald at e
  split at e
  · rename_i i q r hst
    split at e
    · rename_i t' n xs hM
      split at e
      · rename_i hcc
        obtain ⟨rfl, hin⟩ := hcc
        cases e
        cases hst
        refine ⟨rfl, fun dd p l0 e R s m args below meth c D g A n1 n0 a0 c0 s0 cE sE Q hdd C0 a ls H locs cells slots hl hq h1 h2 k2 => ?_⟩
        obtain ⟨g1, g2⟩ := hq.1.okl hM
        have hat := hq.1.1 q g1 g2
        rw [hM] at hat
        exact va_iald C0.1 C0.2.1 C0.2.2.2.2.2.1.1 (va_P1 hat) 0 0 rfl rfl (jin_of hin) hd (k2 ls hl)
      · cases e
    · cases e
  · cases e)
theorem tv_rf (a : Nat → Nat) (x : Option Nat) : tv a (va_rf x) = va_rf (x.map a) := by cases x <;> rfl
theorem k_aald {t : Nat} {C : String} (hd : decode cc pc = .ok (.aaload, 1)) (ht : t < 7) (hT : jT t = .object C) : JOk tab cc own nm nL scr pc (a_aald t) := k_loc (fun f h y e => by
  unfold a_aald at e
  split at e
  · split at e
    · split at e <;> cases e
    · cases e
  · cases e) (by
  intro l st h f' h' e
  unfold a_aald at e
  split at e
  · rename_i i q r hst
    split at e
    · rename_i t' n xs hM
      split at e
      · rename_i hcc
        obtain ⟨rfl, hin⟩ := hcc
        cases e
        cases hst
        refine ⟨rfl, fun dd p l0 e R s m args below meth c D g A n1 n0 a0 c0 s0 cE sE Q hdd C0 a ls H locs cells slots hl hq h1 h2 k2 => ?_⟩
        obtain ⟨g1, g2⟩ := hq.1.okl hM
        have hat := hq.1.1 q g1 g2
        rw [hM] at hat
        refine va_aldq (C := C) C0.1 C0.2.1 C0.2.2.2.2.2.1.1 (va_P1 hat) 0 t' rfl (by rw [jtys_at g ht, hT]) (jin_of hin) hd ?_
        have k3 := k2 ls hl
        rw [List.map_cons, tv_rf] at k3
        exact k3
      · cases e
    · cases e
  · cases e)
/-! the script -/
def a_sld (L : Nat) (xs : Nat → Int32) : JA := fun f h => match f.2.2 with
  | .int i :: .ref q :: r => if q = 0 ∧ jin i L = true then some (.inl ((f.1 + 1, f.2.1, .int (xs i.toNatClampNeg) :: r), h)) else none
  | _ => none
def a_slen (L : Nat) : JA := fun f h => match f.2.2 with
  | .ref q :: r => if q = 0 then some (.inl ((f.1 + 1, f.2.1, .int (Int32.ofNat L) :: r), h)) else none
  | _ => none
theorem k_sld {L : Nat} {xs : Nat → Int32} (hd : decode cc pc = .ok (.iaload, 1)) : JOk tab cc own nm nL (some (L, xs)) pc (a_sld L xs) := k_loc (fun f h y e => by
  unfold a_sld at e
  split at e
  · split at e <;> cases e
  · cases e) (by
  intro l st h f' h' e
  unfold a_sld at e
  split at e
  · rename_i i q r hst
    split at e
    · rename_i hcc
      obtain ⟨rfl, hin⟩ := hcc
      cases e
      cases hst
      refine ⟨rfl, fun dd p l0 e R s m args below meth c D g A n1 n0 a0 c0 s0 cE sE Q hdd C0 a ls H locs cells slots hl hq h1 h2 k2 => ?_⟩
      obtain ⟨x1, x2, x3, x4⟩ := C0.2.2.2.2.2.2.2.2.2.1 L xs rfl
      have e0 : a 0 = a0 0 := hq.2.2.1 0 x4
      rw [← e0] at x1 x2 x3
      exact va_sld C0.1 C0.2.1 x1 x2 x3 hq.2.1 (jin_of hin) hd (k2 ls hl)
    · cases e
  · cases e)
theorem k_slen {L : Nat} {xs : Nat → Int32} (hd : decode cc pc = .ok (.arraylength, 1)) : JOk tab cc own nm nL (some (L, xs)) pc (a_slen L) := k_loc (fun f h y e => by
  unfold a_slen at e
  split at e
  · split at e <;> cases e
  · cases e) (by
  intro l st h f' h' e
  unfold a_slen at e
  split at e
  · rename_i q r hst
    split at e
    · rename_i hcc
      cases e
      cases hst
      subst hcc
      refine ⟨rfl, fun dd p l0 e R s m args below meth c D g A n1 n0 a0 c0 s0 cE sE Q hdd C0 a ls H locs cells slots hl hq h1 h2 k2 => ?_⟩
      obtain ⟨x1, x2, x3, x4⟩ := C0.2.2.2.2.2.2.2.2.2.1 L xs rfl
      have e0 : a 0 = a0 0 := hq.2.2.1 0 x4
      rw [← e0] at x1 x2 x3
      exact va_slen C0.1 C0.2.1 x1 x2 x3 hq.2.1 hd (k2 ls hl)
    · cases e
  · cases e)
/-! writes -/
def jWr (tab : Nat → JM5) (cc : ByteArray) (own : String) (nm : String × List (Nat × Nat × Nat × Nat)) (nL : Nat) (scr : Option (Nat × (Nat → Int32))) (pc : Nat) (act : JA) : Prop := ∀ l st h f' h', act (pc, l, st) h = some (.inl (f', h')) →
  ∃ (q : Nat) (y : JC), h' = (h.1, h.2.1, h.2.2.1, va_up h.2.2.2 q y) ∧ f'.2.1 = l ∧
  ∀ dd (p : Program) (l0 : Launch) (e : Env) (R : Room) (s : State) (m : MethodId) (args : Array Value) (below : List Frame) (meth : Method) (c : Code) (D : va_G) (g : Nat → ClassId) (A : Nat → Prop) (n n0 : Nat) (a0 : Nat → Nat) (c0 s0 cE sE : Nat) (Q : State → Prop), 1 ≤ dd →
    jC cc own nm nL dd scr ((p, l0, e, R, s), (m, args, below, meth, c), (D, g), (A, n, n0, a0), (c0, s0, cE, sE), Q) →
    ∀ (a : Nat → Nat) (ls : Array Slot) (H : Heap) (locs : List Loc) (cells slots : Nat), jR D g a h.1 h.2.2.2 H → ls.size = n → (0 < q ∧ q < h.1 ∧ jwf h.1 y) ∧
    ((∀ (H1 : Heap) (locs1 : List Loc), va_at D vwCl (a q, te g a y) H1 → H1.size = H.size → (∀ x : Nat, x ≠ a q → H1[x]? = H[x]?) → (∀ z ∈ locs1, z ∈ locs ∨ z.base = a q) → W p l0 e R s m args below meth c H1 locs1 cells slots Q (F0 m f'.1 ls (f'.2.2.map (tv a)))) → W p l0 e R s m args below meth c H locs cells slots Q (F0 m pc ls (st.map (tv a))))
theorem k_wr {act : JA} (h0 : ∀ f h y, act f h ≠ some (.inr y)) (hk : jWr tab cc own nm nL scr pc act) : JOk tab cc own nm nL scr pc act := by
  refine ⟨fun l st h f' h' e => ?_, fun dd X hdd C l st h => ?_⟩
  · obtain ⟨q, y, rfl, -⟩ := hk l st h f' h' e
    exact jLe.rf
  · obtain ⟨⟨p, ln, e, R, s⟩, ⟨m, args, below, meth, c⟩, ⟨D, g⟩, ⟨A, n, n0, a0⟩, ⟨c0, s0, cE, sE⟩, Q⟩ := X
    cases hs : act (pc, l, st) h with
    | none => trivial
    | some z =>
      obtain ⟨f', h'⟩ | z := z
      · obtain ⟨q, y, rfl, hl', w⟩ := hk l st h f' h' hs
        intro _ _ k a ls H locs cells slots h1 h2 h3 h4
        obtain ⟨⟨g1, g2, g3⟩, w2⟩ := w dd p ln e R s m args below meth c D g A n n0 a0 c0 s0 cE sE Q hdd C a ls H locs cells slots h2.1 h1.1
        refine w2 (fun H1 locs1 e1 e2 e3 e4 => k a ls H1 locs1 cells slots (by rw [hl']; exact h1) (h2.put C g1 g2 g3 e1 e2 e3 e4) h3 h4)
      · exact absurd hs (h0 _ _ z)
theorem jloc1 {a k : Nat} {locs : List Loc} : ∀ z ∈ locs ++ [⟨a, k⟩], z ∈ locs ∨ z.base = a := fun z hz => (List.mem_append.mp hz).elim Or.inl (fun h => Or.inr (by rw [List.mem_singleton.mp h]))
def a_puti (ci k : Nat) : JA := fun f h => match f.2.2 with
  | .int x :: .ref q :: r => match h.2.2.2 q with
    | .inr (c, fs) => if c = ci ∧ k < fs.length then some (.inl ((f.1 + 3, f.2.1, r), (h.1, h.2.1, h.2.2.1, va_up h.2.2.2 q (.inr (ci, fs.set k (.int x)))))) else none
    | _ => none
  | _ => none
def a_putr (ci k : Nat) : JA := fun f h => match f.2.2 with
  | .ref x :: .ref q :: r => match h.2.2.2 q with
    | .inr (c, fs) => if c = ci ∧ k < fs.length ∧ x < h.1 then some (.inl ((f.1 + 3, f.2.1, r), (h.1, h.2.1, h.2.2.1, va_up h.2.2.2 q (.inr (ci, fs.set k (.ref x)))))) else none
    | _ => none
  | _ => none
theorem jwf_set {n c k : Nat} {fs : List Value} {v : Value} (h : jwf n (.inr (c, fs))) (hv : vwf n v) : jwf n (.inr (c, fs.set k v)) := by
  intro w hw
  rcases List.mem_or_eq_of_mem_set hw with h1 | h1
  · exact h w h1
  · rw [h1]; exact hv
theorem k_puti {ci k idx N : Nat} {C : String} {T : u_T} {ty0 : Nat → FieldType} (hd : decode cc pc = .ok (.putfield idx, 3)) (hc : vwCl[ci]? = some (C, T, N)) (hin : ∀ w ∈ u_ws C T N, w ∈ GW) (hty : ∀ k, k < N → parseFieldDescriptor (T k).2.2.1 = some (ty0 k)) (hnm : ∀ a, a < N → ∀ b, b < N → a ≠ b → (T a).2.1 ≠ (T b).2.1) (hk : k < N) (hfin : (T k).2.2.2 = false) (hi : ty0 k = .int) (hw : Cond.fieldLink own idx (T k).1 (T k).2.1 (T k).2.2.1 ∈ GW) (h99 : ci < 99) : JOk tab cc own nm nL scr pc (a_puti ci k) := k_wr (fun f h y e => by
  unfold a_puti at e
  split at e
  · split at e
    · split at e <;> cases e
    · cases e
  · cases e) (by
  intro l st h f' h' e
  unfold a_puti at e
  split at e
  · rename_i x q r hst
    split at e
    · rename_i cx fs hM
      split at e
      · rename_i hcc
        obtain ⟨rfl, hlen⟩ := hcc
        cases e
        cases hst
        refine ⟨q, _, rfl, rfl, fun dd p l0 e R s m args below meth c D g A n n0 a0 c0 s0 cE sE Q hdd C0 a ls H locs cells slots hR hsz => ?_⟩
        obtain ⟨g1, g2⟩ := hR.okr hM h99
        have hat := hR.1 q g1 g2
        have hwf := hR.2.2.1 q g1 g2
        rw [hM] at hat hwf
        refine ⟨⟨g1, g2, jwf_set hwf trivial⟩, fun kk => ?_⟩
        refine jw_put C0.1 C0.2.1 C0.2.2.2.2.1 hin ty0 hty hnm C0.2.2.1 C0.2.2.2.2.2.1.1 hat hc k hk (C0.2.2.2.2.1 _ hw) hfin (by rw [hty k hk, hi]) rfl rfl (by rw [List.length_map]; exact hlen) hd (fun H1 i e1 e2 e3 => kk H1 _ ?_ e2 e3 jloc1)
        show va_at D vwCl (a q, .inr (cx, (fs.set k (.int x)).map (tv a))) H1
        rw [List.map_set]
        exact e1
      · cases e
    · cases e
  · cases e)
theorem k_putrF {ci k idx N : Nat} {C Cv : String} {T : u_T} {ty0 : Nat → FieldType} {ty : FieldType} (hd : decode cc pc = .ok (.putfield idx, 3)) (hc : vwCl[ci]? = some (C, T, N)) (hin : ∀ w ∈ u_ws C T N, w ∈ GW) (hty : ∀ k, k < N → parseFieldDescriptor (T k).2.2.1 = some (ty0 k)) (hnm : ∀ a, a < N → ∀ b, b < N → a ≠ b → (T a).2.1 ≠ (T b).2.1) (hk : k < N) (hfin : (T k).2.2.2 = true) (hini : nm.1 = "<init>") (hdc : (T k).1 = own) (hi : ty0 k = ty) (hfit : ∀ x, narrow ty (.ref x) = .ref x ∧ fits ty (.ref x) = true) (hw : Cond.fieldLink own idx (T k).1 (T k).2.1 (T k).2.2.1 ∈ GW) (h99 : ci < 99) : JOk tab cc own nm nL scr pc (a_putr ci k) := k_wr (fun f h y e => by
  unfold a_putr at e
  split at e
  · split at e
    · split at e <;> cases e
    · cases e
  · cases e) (by
  intro l st h f' h' e
  unfold a_putr at e
  split at e
  · rename_i x q r hst
    split at e
    · rename_i cx fs hM
      split at e
      · rename_i hcc
        obtain ⟨rfl, hlen, hx⟩ := hcc
        cases e
        cases hst
        refine ⟨q, _, rfl, rfl, fun dd p l0 e R s m args below meth c D g A n n0 a0 c0 s0 cE sE Q hdd C0 a ls H locs cells slots hR hsz => ?_⟩
        obtain ⟨g1, g2⟩ := hR.okr hM h99
        have hat := hR.1 q g1 g2
        have hwf := hR.2.2.1 q g1 g2
        rw [hM] at hat hwf
        refine ⟨⟨g1, g2, jwf_set hwf hx⟩, fun kk => ?_⟩
        refine jw_putF C0.1 C0.2.1 C0.2.2.2.2.1 hin ty0 hty hnm C0.2.2.1 C0.2.2.2.2.2.1.1 hat hc k hk (C0.2.2.2.2.1 _ hw) hfin (C0.2.2.2.2.2.2.2.2.2.2.2.2.1 hini) hdc (by rw [hty k hk, hi]) (hfit _).1 (hfit _).2 (by rw [List.length_map]; exact hlen) hd (fun H1 i e1 e2 e3 => kk H1 _ ?_ e2 e3 jloc1)
        show va_at D vwCl (a q, .inr (cx, (fs.set k (.ref x)).map (tv a))) H1
        rw [List.map_set]
        exact e1
      · cases e
    · cases e
  · cases e)
end JHO
end
section
section JHO2
variable {tab : Nat → JM5} {cc : ByteArray} {own : String} {nm : String × List (Nat × Nat × Nat × Nat)} {nL : Nat} {scr : Option (Nat × (Nat → Int32))} {pc : Nat}
def a_iast : JA := fun f h => match f.2.2 with
  | .int x :: .int i :: .ref q :: r => match h.2.2.2 q with
    | .inl (t', n, .inl xs) => if t' = 0 ∧ jin i n = true then some (.inl ((f.1 + 1, f.2.1, r), (h.1, h.2.1, h.2.2.1, va_up h.2.2.2 q (.inl (0, n, .inl (upd xs i.toNatClampNeg x)))))) else none
    | _ => none
  | _ => none
def a_zast : JA := fun f h => match f.2.2 with
  | .int x :: .int i :: .ref q :: r => match h.2.2.2 q with
    | .inl (t', n, .inl xs) => if t' = 1 ∧ jin i n = true then some (.inl ((f.1 + 1, f.2.1, r), (h.1, h.2.1, h.2.2.1, va_up h.2.2.2 q (.inl (1, n, .inl (upd xs i.toNatClampNeg (vp_nar .boolean x))))))) else none
    | _ => none
  | _ => none
def a_last : JA := fun f h => match f.2.2 with
  | .long x :: .int i :: .ref q :: r => match h.2.2.2 q with
    | .inl (t', n, .inr (.inl xs)) => if t' = 2 ∧ jin i n = true then some (.inl ((f.1 + 1, f.2.1, r), (h.1, h.2.1, h.2.2.1, va_up h.2.2.2 q (.inl (2, n, .inr (.inl (vp_updL xs i.toNatClampNeg x))))))) else none
    | _ => none
  | _ => none
def a_aast (t ci : Nat) : JA := fun f h => match f.2.2 with
  | .ref x :: .int i :: .ref q :: r => match h.2.2.2 q with
    | .inl (t', n, .inr (.inr (.inr (.inr xs)))) => if t' = t ∧ jin i n = true then (match h.2.2.2 x with
      | .inr (c, _) => if c = ci then some (.inl ((f.1 + 1, f.2.1, r), (h.1, h.2.1, h.2.2.1, va_up h.2.2.2 q (.inl (t, n, .inr (.inr (.inr (.inr (va_up xs i.toNatClampNeg (some x)))))))))) else none
      | _ => none) else none
    | _ => none
  | _ => none
theorem k_iast (hd : decode cc pc = .ok (.iastore, 1)) : JOk tab cc own nm nL scr pc a_iast := k_wr (fun f h y e => by
  unfold a_iast at e
  split at e
  · split at e
    · split at e <;> cases e
    · cases e
  · cases e) (by
  intro l st h f' h' e
  unfold a_iast at e
  split at e
  · rename_i x i q r hst
    split at e
    · rename_i t' n xs hM
      split at e
      · rename_i hcc
        obtain ⟨rfl, hin⟩ := hcc
        cases e
        cases hst
        refine ⟨q, _, rfl, rfl, fun dd p l0 e R s m args below meth c D g A n1 n0 a0 c0 s0 cE sE Q hdd C0 a ls H locs cells slots hR hsz => ?_⟩
        obtain ⟨g1, g2⟩ := hR.okl hM
        have hat := hR.1 q g1 g2
        rw [hM] at hat
        refine ⟨⟨g1, g2, trivial⟩, fun kk => ?_⟩
        have hin2 := jin_of hin
        refine W.iast C0.1 C0.2.1 hat ((C0.2.2.2.2.2.1.1.2 0 _ rfl).1 n (fun j => .int (xs j))) (fun q => by cases q) (by show ¬ (i < 0 ∨ (arrV _ _ _).slots.size ≤ _); rw [arrV_size]; exact hin2) rfl rfl hd fun H1 e z oq => ?_
        refine kk H1 _ ?_ z oq jloc1
        show H1[a q]? = some (vp_cell _ _)
        rw [e]
        show some ((vp_cell (g 0) (n, .inl xs)).setSlot i.toNatClampNeg (.int x)) = some (vp_cell (g 0) (n, .inl (upd xs i.toNatClampNeg x)))
        rw [vp_cell_i, vp_cell_i, arrV_store]
        congr 2
        funext q2
        by_cases hq : q2 = i.toNatClampNeg
        · subst hq
          simp [updV, upd]
          
        · simp [updV, upd, hq]
      · cases e
    · cases e
  · cases e)
theorem k_aast {t ci : Nat} {r0 : vw_C} (hd : decode cc pc = .ok (.aastore, 1)) (ht : t < 7) (hc : vwCl[ci]? = some r0) (hT : jT t = .object r0.1) (h99 : ci < 99) : JOk tab cc own nm nL scr pc (a_aast t ci) := k_wr (fun f h y e => by
  unfold a_aast at e
  split at e
  · split at e
    · split at e
      · split at e
        · split at e <;> cases e
        · cases e
      · cases e
    · cases e
  · cases e) (by
  intro l st h f' h' e
  unfold a_aast at e
  split at e
  · rename_i x i q r hst
    split at e
    · rename_i t' n xs hM
      split at e
      · rename_i hcc
        obtain ⟨rfl, hin⟩ := hcc
        split at e
        · rename_i cx fx hMx
          split at e
          · rename_i hcx
            subst hcx
            cases e
            cases hst
            refine ⟨q, _, rfl, rfl, fun dd p l0 e R s m args below meth c D g A n1 n0 a0 c0 s0 cE sE Q hdd C0 a ls H locs cells slots hR hsz => ?_⟩
            obtain ⟨g1, g2⟩ := hR.okl hM
            obtain ⟨x1, x2⟩ := hR.okr hMx h99
            have hat := hR.1 q g1 g2
            have hatx := hR.1 x x1 x2
            have hwf := hR.2.2.1 q g1 g2
            rw [hM] at hat hwf
            rw [hMx] at hatx
            refine ⟨⟨g1, g2, fun j y hj => ?_⟩, fun kk => ?_⟩
            · by_cases hji : j = i.toNatClampNeg
              · subst hji
                rw [va_up_self] at hj
                cases hj
                exact x2
              · rw [va_up_ne _ _ hji] at hj
                exact hwf j y hj
            have hin2 := jin_of hin
            have hK := C0.2.2.2.2.2.1.1
            have hlt : i.toNatClampNeg < n := Nat.not_le.mp fun q => hin2 (Or.inr q)
            have h0 : ¬ i < 0 := fun q => hin2 (Or.inl q)
            obtain ⟨r', hr', cellV, g1, g2, g3, -⟩ := hatx
            have hcls := (hK.1 cx r0 hc).2
            have htt : (jtys g)[t']? = some (g t', .object r0.1) := by rw [jtys_at g ht, hT]
            obtain ⟨kA, comp, k1, k2, k3, -⟩ := (hK.2 t' _ htt).2
            have hcomp : comp = D.1 cx := Option.some.inj (k3.symm.trans hcls.1)
            subst hcomp
            obtain ⟨kC, hkC, -⟩ := hcls.2
            refine W.aast C0.1 C0.2.1 hat (fun q h => by cases h) (fun h => by cases h) k1 k2 rfl hkC ⟨h0, by show _ < (arrV _ _ _).slots.size; rw [arrV_size]; exact hlt⟩ g1 (fun q h => by rw [g3] at h; cases h) (by rw [g2]; exact hkC) (by rw [g2]; exact va_assign hcls) rfl rfl hd fun H1 e z oq => ?_
            refine kk H1 _ ?_ z oq jloc1
            show H1[a q]? = some (vp_cell _ _)
            rw [e]
            show some ((vp_cell (g t') (n, .inr (.inr (.inr (.inr (fun j => (xs j).map a)))))).setSlot i.toNatClampNeg (.ref (a x))) = some (vp_cell (g t') (n, .inr (.inr (.inr (.inr (fun j => (va_up xs i.toNatClampNeg (some x) j).map a))))))
            rw [vp_cell_q, vp_cell_q, arrV_store]
            congr 2
            funext q2
            by_cases hq : q2 = i.toNatClampNeg
            · subst hq
              simp [updV, va_up, va_rf]
            · simp [updV, va_up, hq]
          · cases e
        · cases e
      · cases e
    · cases e
  · cases e)
end JHO2
end
section
section JMK
variable {tab : Nat → JM5} {cc : ByteArray} {own : String} {nm : String × List (Nat × Nat × Nat × Nat)} {nL : Nat} {scr : Option (Nat × (Nat → Int32))} {pc : Nat}
/-- a new cell gets the next number -/
theorem jQ.new {p : Program} {l : Launch} {e : Env} {R : Room} {s : State} {m : MethodId} {args : Array Value} {below : List Frame} {meth : Method} {c : Code} {D : va_G} {g : Nat → ClassId} {A : Nat → Prop} {n n0 : Nat} {a0 : Nat → Nat} {c0 s0 cE sE : Nat} {Q : State → Prop}
    {a : Nat → Nat} {h : JH} {H H1 : Heap} {locs : List Loc} {cells slots N : Nat}
    (hq : jQ ((p, l, e, R, s), (m, args, below, meth, c), (D, g), (A, n, n0, a0), (c0, s0, cE, sE), Q) a h H locs cells slots) {y : JC} (hy : jwf h.1 y) (hat : va_at D vwCl (H.size, te g a y) H1) (hz : H1.size = H.size + 1) (ho : ∀ x : Nat, x < H.size → H1[x]? = H[x]?) :
    jQ ((p, l, e, R, s), (m, args, below, meth, c), (D, g), (A, n, n0, a0), (c0, s0, cE, sE), Q) (va_up a h.1 H.size) (h.1 + 1, h.2.1 + 1, h.2.2.1 + N, va_up h.2.2.2 h.1 y) H1 locs (cells + 1) (slots + N) := by
  obtain ⟨⟨k1, k2, k3, k4, k5⟩, ⟨v1, v2, v3⟩, k6, k7, k8, k9, k10, k11⟩ := hq
  have hag : ∀ q, q < h.1 → va_up a h.1 H.size q = a q := fun q hq => va_up_ne _ _ (Nat.ne_of_lt hq)
  have hlt : ∀ q, 0 < q → q < h.1 → a q < H.size := fun q h0 h1 => (k1 q h0 h1).lt
  refine ⟨⟨fun q h0 h1 => ?_, fun q r q0 q1 r0 r1 e1 => ?_, fun q h0 h1 => ?_, Nat.succ_pos _, fun q h0 => ?_⟩, ⟨by rw [hz]; omega, fun x hx hxA => ?_, v3⟩, fun q h0 => ?_, fun h0 => ?_, fun q h0 h1 => ?_, by show n0 ≤ h.1 + 1; omega, by show h.2.1 + 1 = _; omega, by show h.2.2.1 + N = _; omega⟩
  · by_cases e1 : q = h.1
    · subst e1
      show va_at D vwCl (va_up a h.1 H.size h.1, te g (va_up a h.1 H.size) (va_up h.2.2.2 h.1 y h.1)) H1
      rw [va_up_self, va_up_self, te_congr hag hy]
      exact hat
    · have h2 : q < h.1 := by have : q < h.1 + 1 := h1; omega
      show va_at D vwCl (va_up a h.1 H.size q, te g (va_up a h.1 H.size) (va_up h.2.2.2 h.1 y q)) H1
      rw [va_up_ne _ _ e1, va_up_ne _ _ e1, te_congr hag (k3 q h0 h2)]
      exact (k1 q h0 h2).kept (ho _ (hlt q h0 h2))
  · have q2 : q < h.1 + 1 := q1
    have r2 : r < h.1 + 1 := r1
    by_cases eq : q = h.1
    · by_cases er : r = h.1
      · omega
      · have := hlt r r0 (by omega)
        rw [eq, va_up_self, va_up_ne _ _ er] at e1
        omega
    · by_cases er : r = h.1
      · have := hlt q q0 (by omega)
        rw [er, va_up_self, va_up_ne _ _ eq] at e1
        omega
      · rw [va_up_ne _ _ eq, va_up_ne _ _ er] at e1
        exact k2 q r q0 (by omega) r0 (by omega) e1
  · have h2 : q < h.1 + 1 := h1
    show jwf (h.1 + 1) (va_up h.2.2.2 h.1 y q)
    by_cases e1 : q = h.1
    · rw [e1, va_up_self]
      exact jwf_mono (Nat.le_succ _) hy
    · rw [va_up_ne _ _ e1]
      exact jwf_mono (Nat.le_succ _) (k3 q h0 (by omega))
  · show va_up h.2.2.2 h.1 y q = _
    have h2 : q = 0 ∨ h.1 + 1 ≤ q := h0
    rw [va_up_ne _ _ (by omega)]
    exact k5 q (by omega)
  · rw [ho x (Nat.lt_of_lt_of_le hx v1)]
    exact v2 x hx hxA
  · rw [hag q (by omega)]
    exact k6 q h0
  · have h2 : h.1 + 1 = n0 := h0
    omega
  · have h2 : q < h.1 + 1 := h1
    by_cases e1 : q = h.1
    · rw [e1, va_up_self]
      exact v1
    · rw [va_up_ne _ _ e1]
      exact k8 q h0 (by omega)
/-- actions that make a cell -/
def jMk (tab : Nat → JM5) (cc : ByteArray) (own : String) (nm : String × List (Nat × Nat × Nat × Nat)) (nL : Nat) (scr : Option (Nat × (Nat → Int32))) (pc : Nat) (act : JA) : Prop := ∀ l st h f' h', act (pc, l, st) h = some (.inl (f', h')) →
  ∃ (y : JC) (N : Nat) (st' : List Value), h' = (h.1 + 1, h.2.1 + 1, h.2.2.1 + N, va_up h.2.2.2 h.1 y) ∧ f'.2.1 = l ∧ f'.2.2 = .ref h.1 :: st' ∧ l.all (fun q => vfb h.1 q.2) = true ∧ st'.all (vfb h.1) = true ∧ (∀ n, jwf n y) ∧
  ∀ dd (p : Program) (l0 : Launch) (e : Env) (R : Room) (s : State) (m : MethodId) (args : Array Value) (below : List Frame) (meth : Method) (c : Code) (D : va_G) (g : Nat → ClassId) (A : Nat → Prop) (n n0 : Nat) (a0 : Nat → Nat) (c0 s0 cE sE : Nat) (Q : State → Prop), 1 ≤ dd →
    jC cc own nm nL dd scr ((p, l0, e, R, s), (m, args, below, meth, c), (D, g), (A, n, n0, a0), (c0, s0, cE, sE), Q) →
    ∀ (a : Nat → Nat) (ls : Array Slot) (H : Heap) (locs : List Loc) (cells slots : Nat), ls.size = n → cells + 1 ≤ R.cells → slots + N ≤ R.slots →
    (∀ (H1 : Heap), va_at D vwCl (H.size, te g a y) H1 → H1.size = H.size + 1 → (∀ x : Nat, x < H.size → H1[x]? = H[x]?) → W p l0 e R s m args below meth c H1 locs (cells + 1) (slots + N) Q (F0 m f'.1 ls (.ref H.size :: st'.map (tv a)))) → W p l0 e R s m args below meth c H locs cells slots Q (F0 m pc ls (st.map (tv a)))
theorem k_mk {act : JA} (h0 : ∀ f h y, act f h ≠ some (.inr y)) (hk : jMk tab cc own nm nL scr pc act) : JOk tab cc own nm nL scr pc act := by
  refine ⟨fun l st h f' h' e => ?_, fun dd X hdd C l st h => ?_⟩
  · obtain ⟨y, N, st', rfl, -⟩ := hk l st h f' h' e
    exact ⟨Nat.le_succ _, Nat.le_succ _, Nat.le_add_right _ _⟩
  · obtain ⟨⟨p, ln, e, R, s⟩, ⟨m, args, below, meth, c⟩, ⟨D, g⟩, ⟨A, n, n0, a0⟩, ⟨c0, s0, cE, sE⟩, Q⟩ := X
    cases hs : act (pc, l, st) h with
    | none => trivial
    | some z =>
      obtain ⟨f', h'⟩ | z := z
      · obtain ⟨y, N, st', rfl, hl', hst', hf1, hf2, hy, w⟩ := hk l st h f' h' hs
        intro b1 b2 k a ls H locs cells slots h1 h2 h3 h4
        have b1' : h.2.1 + 1 ≤ cE := b1
        have b2' : h.2.2.1 + N ≤ sE := b2
        obtain ⟨-, -, -, -, -, -, -, ⟨-, -, r3, r4⟩, -⟩ := id C
        obtain ⟨-, -, -, -, -, -, q1, q2⟩ := id h2
        refine w dd p ln e R s m args below meth c D g A n n0 a0 c0 s0 cE sE Q hdd C a ls H locs cells slots h1.1 (by omega) (by omega) (fun H1 e1 e2 e3 => ?_)
        have hag : ∀ q, q < h.1 → va_up a h.1 H.size q = a q := fun q hq => va_up_ne _ _ (Nat.ne_of_lt hq)
        have k' := k (va_up a h.1 H.size) ls H1 locs (cells + 1) (slots + N) (by rw [hl', tvl_congr hag hf1]; exact h1) (h2.new (hy _) e1 e2 e3) b1 b2
        rw [hst', List.map_cons, tvs_congr hag hf2] at k'
        have e9 : tv (va_up a h.1 H.size) (.ref h.1) = .ref H.size := congrArg Value.ref (va_up_self _ _ _)
        rw [e9] at k'
        exact k'
      · exact absurd hs (h0 _ _ z)
def a_new (ci N : Nat) (fs : List Value) : JA := fun f h => if f.2.1.all (fun q => vfb h.1 q.2) = true ∧ f.2.2.all (vfb h.1) = true then some (.inl ((f.1 + 3, f.2.1, .ref h.1 :: f.2.2), (h.1 + 1, h.2.1 + 1, h.2.2.1 + N, va_up h.2.2.2 h.1 (.inr (ci, fs))))) else none
theorem k_new {ci idx N : Nat} {fs : List Value} {C : String} {T : u_T} {ty0 : Nat → FieldType} (hd : decode cc pc = .ok (.new idx, 3)) (hc : vwCl[ci]? = some (C, T, N)) (hin : ∀ w ∈ u_ws C T N, w ∈ GW) (hty : ∀ k, k < N → parseFieldDescriptor (T k).2.2.1 = some (ty0 k)) (hfs : ∀ j, j < N → defaultValue (ty0 j) = vp_V fs j) (hnr : ∀ a : Nat → Nat, fs.map (tv a) = fs) (hwf : ∀ n, jwf n (.inr (ci, fs)))
    (w1 : Cond.classLink own idx C ∈ GW) (w2 : Cond.instantiable C N ∈ GW) (w3 : Cond.initialized C ∈ GW) : JOk tab cc own nm nL scr pc (a_new ci N fs) := k_mk (fun f h y e => by
  unfold a_new at e
  split at e <;> cases e) (by
  intro l st h f' h' e
  unfold a_new at e
  split at e
  · rename_i hf
    cases e
    refine ⟨_, N, st, rfl, rfl, rfl, hf.1, hf.2, hwf, fun dd p l0 e R s m args below meth c D g A n n0 a0 c0 s0 cE sE Q hdd C0 a ls H locs cells slots hsz hcl hsl kk => ?_⟩
    have hKn := C0.2.2.2.2.2.1.1.1 ci _ hc
    refine W.newcK C0.1 C0.2.1 C0.2.2.1 (C0.2.2.2.2.1 _ w1) (C0.2.2.2.2.1 _ w2) (C0.2.2.2.2.1 _ w3) rfl hd hcl hsl hKn.2.1 rfl fun H1 kC hkC e1 z1 o1 => ?_
    refine kk H1 ?_ z1 o1
    show va_at D vwCl (H.size, .inr (ci, fs.map (tv a))) H1
    rw [hnr]
    exact ⟨_, hc, (u_born ty0 C0.2.2.2.2.1 hin hKn hkC e1 hty).to hfs⟩
  · cases e)
/-- a new row of numbers -/
def a_newi (t : Nat) : JA := fun f h => match f.2.2 with
  | .int x :: r => if f.2.1.all (fun q => vfb h.1 q.2) = true ∧ r.all (vfb h.1) = true ∧ ¬ x < 0 ∧ x.toNatClampNeg ≤ 65536 then some (.inl ((f.1 + 2, f.2.1, .ref h.1 :: r), (h.1 + 1, h.2.1 + 1, h.2.2.1 + x.toNatClampNeg, va_up h.2.2.2 h.1 (.inl (t, x.toNatClampNeg, .inl (fun _ => 0)))))) else none
  | _ => none
def a_newl : JA := fun f h => match f.2.2 with
  | .int x :: r => if f.2.1.all (fun q => vfb h.1 q.2) = true ∧ r.all (vfb h.1) = true ∧ ¬ x < 0 ∧ x.toNatClampNeg ≤ 65536 then some (.inl ((f.1 + 2, f.2.1, .ref h.1 :: r), (h.1 + 1, h.2.1 + 1, h.2.2.1 + x.toNatClampNeg, va_up h.2.2.2 h.1 (.inl (2, x.toNatClampNeg, .inr (.inl (fun _ => 0))))))) else none
  | _ => none
theorem k_newi {t : Nat} {at0 : ArrayType} {ty : FieldType} (hd : decode cc pc = .ok (.newarray at0, 2)) (hat : newarray.typeOf at0 = ty) (ht : t < 7) (hT : jT t = ty) (hcls : Cond.arrayClass ty ∈ GW) (hb : componentBytes ty ≤ 8) (hdf : defaultValue ty = .int 0) (hno : ∀ (U : State) (cA : ClassId), va_RA U cA ty → U.vm.findClass ("[" ++ ty.toString) = some cA) : JOk tab cc own nm nL scr pc (a_newi t) := k_mk (fun f h y e => by
  unfold a_newi at e
  split at e
  · split at e <;> cases e
  · cases e) (by
  intro l st h f' h' e
  unfold a_newi at e
  split at e
  · rename_i x r hst
    split at e
    · rename_i hf
      cases e
      cases hst
      refine ⟨_, x.toNatClampNeg, r, rfl, rfl, rfl, hf.1, hf.2.1, fun _ => trivial, fun dd p l0 e R s m args below meth c D g A n n0 a0 c0 s0 cE sE Q hdd C0 a ls H locs cells slots hsz hcl hsl kk => ?_⟩
      subst hat
      refine va_newaK C0.1 C0.2.1 (C0.2.2.2.2.1 _ hcls) rfl hd rfl hf.2.2.1 rfl ?_ hcl hsl rfl fun H1 cA e1 z1 o1 hAr hNm => ?_
      · exact Nat.le_trans (Nat.mul_le_mul hf.2.2.2 hb) (Nat.le_of_ble_eq_true rfl)
      · have hRA := (C0.2.2.2.2.2.1.1.2 t (g t, newarray.typeOf at0) (by rw [jtys_at g ht, hT])).2
        have e2 : cA = g t := Option.some.inj (hNm.symm.trans (hno _ _ hRA))
        subst e2
        refine kk H1 ?_ z1 o1
        show H1[H.size]? = some (vp_cell _ _)
        rw [hdf] at e1
        exact e1
    · cases e
  · cases e)
/-- a new row of references -/
def a_newq (t : Nat) : JA := fun f h => match f.2.2 with
  | .int x :: r => if f.2.1.all (fun q => vfb h.1 q.2) = true ∧ r.all (vfb h.1) = true ∧ ¬ x < 0 ∧ x.toNatClampNeg ≤ 65536 then some (.inl ((f.1 + 3, f.2.1, .ref h.1 :: r), (h.1 + 1, h.2.1 + 1, h.2.2.1 + x.toNatClampNeg, va_up h.2.2.2 h.1 (.inl (t, x.toNatClampNeg, .inr (.inr (.inr (.inr (fun _ => none))))))))) else none
  | _ => none
theorem k_newq {t idx : Nat} {C : String} (hd : decode cc pc = .ok (.anewarray idx, 3)) (ht : t < 7) (hT : jT t = .object C) (hA : C ∈ AOS) (w1 : Cond.classLink own idx C ∈ GW) : JOk tab cc own nm nL scr pc (a_newq t) := k_mk (fun f h y e => by
  unfold a_newq at e
  split at e
  · split at e <;> cases e
  · cases e) (by
  intro l st h f' h' e
  unfold a_newq at e
  split at e
  · rename_i x r hst
    split at e
    · rename_i hf
      cases e
      cases hst
      refine ⟨_, x.toNatClampNeg, r, rfl, rfl, rfl, hf.1, hf.2.1, fun _ => (fun j q e => by cases e), fun dd p l0 e R s m args below meth c D g A n n0 a0 c0 s0 cE sE Q hdd C0 a ls H locs cells slots hsz hcl hsl kk => ?_⟩
      refine W.anew C0.1 C0.2.1 C0.2.2.1 (C0.2.2.2.2.1 _ w1) (va_AO.use (C0.2.2.2.2.2.1.2.2.1 C hA)) rfl hd rfl hf.2.2.1 ?_ hcl hsl fun cA kA comp f1 f2 f3 f4 => ?_
      · exact Nat.le_trans (Nat.mul_le_mul hf.2.2.2 (Nat.le_refl 4)) (Nat.le_of_ble_eq_true rfl)
      · obtain ⟨kA', comp', g1, g2, g3, g4⟩ := (C0.2.2.2.2.2.1.1.2 t (g t, .object C) (by rw [jtys_at g ht, hT])).2
        have e2 : cA = g t := Option.some.inj (f1.symm.trans g4)
        subst e2
        refine kk _ ?_ (by simp) (fun q hq => by rw [Array.getElem?_push, if_neg (Nat.ne_of_lt hq)])
        show (H.push _)[H.size]? = some (vp_cell (g t) (x.toNatClampNeg, .inr (.inr (.inr (.inr (fun j => (none : Option Nat).map a))))))
        rw [Array.getElem?_push_size, vp_cell_q]
        exact congrArg some (arrV_new (g t) x.toNatClampNeg .null)
    · cases e
  · cases e)
end JMK
end
section
section JCL
variable {tab : Nat → JM5} {cc : ByteArray} {own : String} {nm : String × List (Nat × Nat × Nat × Nat)} {nL : Nat} {scr : Option (Nat × (Nat → Int32))} {pc : Nat}
def jcat (st : List Value) : Nat := (st.map fun v => v.category).sum
/-! Math.max, Math.min -/
def a_mmax : JA := fun f h => match f.2.2 with
  | .int y :: .int x :: r => if jcat r ≤ 8 then some (.inl ((f.1 + 3, f.2.1, .int (if x < y then y else x) :: r), h)) else none
  | _ => none
def a_mmin : JA := fun f h => match f.2.2 with
  | .int y :: .int x :: r => if jcat r ≤ 8 then some (.inl ((f.1 + 3, f.2.1, .int (if y < x then y else x) :: r), h)) else none
  | _ => none
theorem k_mmax {idx : Nat} (hd : decode cc pc = .ok (.invokestatic idx, 3)) (w1 : Cond.methodLink own idx Lib.Math.max.name ∈ GW) (w2 : Cond.static Lib.Math.max.name ∈ GW) (w3 : Cond.initialized "java/lang/Math" ∈ GW) (w4 : Cond.code Lib.Math.max.name Lib.Math.max.code 2 (some .int) ∈ GW) : JOk tab cc own nm nL scr pc a_mmax := k_loc (fun f h y e => by
  unfold a_mmax at e
  split at e
  · split at e <;> cases e
  · cases e) (by
  intro l st h f' h' e
  unfold a_mmax at e
  split at e
  · rename_i y x r hst
    split at e
    · rename_i hr
      cases e
      cases hst
      refine ⟨rfl, fun dd p l0 e R s m args below meth c D g A n n0 a0 c0 s0 cE sE Q hdd C0 a ls H locs cells slots hl hq h1 h2 k2 => ?_⟩
      obtain ⟨-, -, -, ⟨hml, -⟩, -, -, -, ⟨r1, r2, r3, r4⟩, -⟩ := id C0
      obtain ⟨-, -, -, -, -, -, q1, q2⟩ := hq
      have hr' : ((r.map (tv a)).map fun v => v.category).sum ≤ 8 := by rw [tv_catsum]; exact hr
      exact va_mmax C0.1 C0.2.1 (hml.trans hl.1.symm) C0.2.2.1 (C0.2.2.2.2.1 _ w1) (C0.2.2.2.2.1 _ w2) (C0.2.2.2.2.1 _ w3) (C0.2.2.2.2.1 _ w4) (by omega) (by omega) (by omega) (by omega) hd (k2 ls hl)
    · cases e
  · cases e)
theorem k_mmin {idx : Nat} (hd : decode cc pc = .ok (.invokestatic idx, 3)) (w1 : Cond.methodLink own idx Lib.Math.min.name ∈ GW) (w2 : Cond.static Lib.Math.min.name ∈ GW) (w3 : Cond.initialized "java/lang/Math" ∈ GW) (w4 : Cond.code Lib.Math.min.name Lib.Math.min.code 2 (some .int) ∈ GW) : JOk tab cc own nm nL scr pc a_mmin := k_loc (fun f h y e => by
  unfold a_mmin at e
  split at e
  · split at e <;> cases e
  · cases e) (by
  intro l st h f' h' e
  unfold a_mmin at e
  split at e
  · rename_i y x r hst
    split at e
    · rename_i hr
      cases e
      cases hst
      refine ⟨rfl, fun dd p l0 e R s m args below meth c D g A n n0 a0 c0 s0 cE sE Q hdd C0 a ls H locs cells slots hl hq h1 h2 k2 => ?_⟩
      obtain ⟨-, -, -, ⟨hml, -⟩, -, -, -, ⟨r1, r2, r3, r4⟩, -⟩ := id C0
      obtain ⟨-, -, -, -, -, -, q1, q2⟩ := hq
      have hr' : ((r.map (tv a)).map fun v => v.category).sum ≤ 8 := by rw [tv_catsum]; exact hr
      exact va_mmin C0.1 C0.2.1 (hml.trans hl.1.symm) C0.2.2.1 (C0.2.2.2.2.1 _ w1) (C0.2.2.2.2.1 _ w2) (C0.2.2.2.2.1 _ w3) (C0.2.2.2.2.1 _ w4) (by omega) (by omega) (by omega) (by omega) hd (k2 ls hl)
    · cases e
  · cases e)
/-! Object's constructor -/
def a_oini : JA := fun f h => match f.2.2 with
  | .ref _ :: r => if jcat r ≤ 8 then some (.inl ((f.1 + 3, f.2.1, r), h)) else none
  | _ => none
theorem k_oini {idx : Nat} (hd : decode cc pc = .ok (.invokespecial idx, 3)) (w1 : Cond.methodLink own idx Lib.objectInit ∈ GW) (w2 : Cond.instanceMethod Lib.objectInit ∈ GW) (w3 : Cond.code Lib.objectInit ⟨#[0xb1]⟩ 1 none ∈ GW) : JOk tab cc own nm nL scr pc a_oini := k_loc (fun f h y e => by
  unfold a_oini at e
  split at e
  · split at e <;> cases e
  · cases e) (by
  intro l st h f' h' e
  unfold a_oini at e
  split at e
  · rename_i q r hst
    split at e
    · rename_i hr
      cases e
      cases hst
      refine ⟨rfl, fun dd p l0 e R s m args below meth c D g A n n0 a0 c0 s0 cE sE Q hdd C0 a ls H locs cells slots hl hq h1 h2 k2 => ?_⟩
      obtain ⟨-, -, -, ⟨hml, -⟩, -, -, -, ⟨r1, r2, r3, r4⟩, -⟩ := id C0
      have hr' : ((r.map (tv a)).map fun v => v.category).sum ≤ 8 := by rw [tv_catsum]; exact hr
      exact W.objInit C0.1 C0.2.1 C0.2.2.1 (C0.2.2.2.2.1 _ w1) (C0.2.2.2.2.1 _ w2) (C0.2.2.2.2.1 _ w3) rfl (hl.1.trans hml.symm) rfl hd (by omega) (by show 2 * 0 + _ + 12 ≤ _; omega) (k2 ls hl)
    · cases e
  · cases e)
/-! System.arraycopy of numbers -/
def a_copy : JA := fun f h => match f.2.2 with
  | .int n :: .int dp :: .ref q :: .int sp :: .ref q0 :: r => match h.2.2.2 q0, h.2.2.2 q with
    | .inl (t0, n0, .inl xs), .inl (t1, n1, .inl ys) => if t0 = 0 ∧ t1 = 0 ∧ jcat r ≤ 8 ∧ ¬ sp < 0 ∧ ¬ dp < 0 ∧ ¬ n < 0 ∧ sp.toNatClampNeg + n.toNatClampNeg ≤ n0 ∧ dp.toNatClampNeg + n.toNatClampNeg ≤ n1 then
        some (.inl ((f.1 + 3, f.2.1, r), (h.1, h.2.1, h.2.2.1, va_up h.2.2.2 q (.inl (0, n1, .inl (va_cpy xs ys sp.toNatClampNeg dp.toNatClampNeg n.toNatClampNeg)))))) else none
    | _, _ => none
  | _ => none
theorem jw_copy {p : Program} {l : Launch} {e : Env} {R : Room} {s : State} {m : MethodId} {args : Array Value} {below : List Frame} {meth : Method} {c : Code} {H : Heap} {locs : List Loc} {cells slots : Nat} {Q : State → Prop} {ls : Array Slot} {rest : List Value} {a : Nat} {tys : List (ClassId × FieldType)}
    (hexec : p.tables.exec = Jvm.exec) (hb : c.code = cc) (hml : c.maxLocals = ls.size) {own : String} {index : Nat} (hown : s.vm.findClass own = some m.cls) (hlink : (Cond.methodLink own index arraycopyName).before args s = true) (hnat : (Cond.native arraycopyName).before args s = true) (hstat : (Cond.static arraycopyName).before args s = true) (hini : (Cond.initialized "java/lang/System").before args s = true)
    {D : va_G} (hK : va_K D vwCl tys s) (t0 t1 : Nat) {a0 : Nat} {c0 c1 : ClassId} {n0 n1 : Nat} {f g : Nat → Int32} {ty : FieldType} (hc0 : H[a0]? = some (vp_cell c0 (n0, .inl f))) (hc1 : H[a]? = some (vp_cell c1 (n1, .inl g))) (ht0 : tys[t0]? = some (c0, ty)) (ht1 : tys[t1]? = some (c1, ty)) (hprim : refKind ty = false)
    {sp dp n : Int32} (h1 : ¬ sp < 0) (h2 : ¬ dp < 0) (h3 : ¬ n < 0) (h4 : sp.toNatClampNeg + n.toNatClampNeg ≤ n0) (h5 : dp.toNatClampNeg + n.toNatClampNeg ≤ n1) (hfit : ∀ i, i < n.toNatClampNeg → fits ty (.int (f (sp.toNatClampNeg + i))) = true)
    (hframes : 1 ≤ R.frames) (hlocals : (rest.map fun v => v.category).sum + (nativeFrameWords "java/lang/System" "arraycopy" 5 + 11) ≤ R.locals) (hdg : decode cc pc = .ok (.invokestatic index, 3))
    (kk : ∀ (H1 : Heap) (locs1 : List Loc), H1[a]? = some (vp_cell c1 (n1, .inl (va_cpy f g sp.toNatClampNeg dp.toNatClampNeg n.toNatClampNeg))) → H1.size = H.size → (∀ q : Nat, q ≠ a → H1[q]? = H[q]?) → (∀ z ∈ locs1, z ∈ locs ∨ z.base = a) → W p l e R s m args below meth c H1 locs1 cells slots Q (F0 m (pc + 3) ls rest)) : W p l e R s m args below meth c H locs cells slots Q (F0 m pc ls (.int n :: .int dp :: .ref a :: .int sp :: .ref a0 :: rest)) := by
  intro T hT X
  obtain ⟨-, k0, hk0, cm0, hkk0⟩ := (hK.2 t0 _ ht0).1 n0 (fun j => .int (f j))
  obtain ⟨-, k1, hk1, cm1, hkk1⟩ := (hK.2 t1 _ ht1).1 n1 (fun j => .int (g j))
  obtain ⟨vm', X', step⟩ := X.arraycopy hexec hown hlink hnat hstat hini (src := a0) (dst := a) (cs := vp_cell c0 (n0, .inl f)) (cd := vp_cell c1 (n1, .inl g)) (srcPos := sp) (destPos := dp) (n := n) (by rw [hT]; exact hc0) (by rw [hT]; exact hc1)
    (fun _ h => by cases h) (fun _ h => by cases h) (fun h => by cases h) (fun h => by cases h) hk0 hk1 hkk0 hkk1 (by simp [hprim]) h1 h2 h3
    (by rw [j_clamp h1, j_clamp h3]; show ¬ _ > ((arrV c0 n0 (fun j => .int (f j))).slots.size : Int); rw [arrV_size]; omega)
    (by rw [j_clamp h2, j_clamp h3]; show ¬ _ > ((arrV c1 n1 (fun j => .int (g j))).slots.size : Int); rw [arrV_size]; omega)
    (fun vm₁ _ i hi => by
      have e : (vp_cell c0 (n0, .inl f)).slots.getD (sp.toNatClampNeg + i) .null = .int (f (sp.toNatClampNeg + i)) := by
        show (arrV c0 n0 (fun j => .int (f j))).slots.getD _ _ = _
        rw [Array.getD_eq_getD_getElem?, arrV_read _ _ (by omega)]
        rfl
      refine ⟨?_, ?_⟩
      · rw [e]
        exact hfit i hi
      · rw [e]
        exact trivial)
    (g := F0 m pc ls (.int n :: .int dp :: .ref a :: .int sp :: .ref a0 :: rest)) rfl (by rw [hml]) (rest := rest) rfl (by rw [hb]; exact hdg) hframes (by show 2 * 0 + _ + _ ≤ _; omega)
  have e1 : copied (vp_cell c0 (n0, .inl f)) (vp_cell c1 (n1, .inl g)) sp dp n = vp_cell c1 (n1, .inl (va_cpy f g sp.toNatClampNeg dp.toNatClampNeg n.toNatClampNeg)) := va_copied (fun z => .int z) c0 c1 f g h4
  rw [e1] at X' step
  have hl : a < H.size := (Array.getElem?_eq_some_iff.mp hc1).1
  have hheap : ((T.setVm vm').setCell a (vp_cell c1 (n1, .inl (va_cpy f g sp.toNatClampNeg dp.toNatClampNeg n.toNatClampNeg)))).heap = H.setIfInBounds a (vp_cell c1 (n1, .inl (va_cpy f g sp.toNatClampNeg dp.toNatClampNeg n.toNatClampNeg))) := by rw [← hT]; rfl
  obtain ⟨t, b1, b2⟩ := kk _ _ (show (H.setIfInBounds a (vp_cell c1 (n1, .inl (va_cpy f g sp.toNatClampNeg dp.toNatClampNeg n.toNatClampNeg))))[a]? = some _ by simp [Array.getElem?_setIfInBounds, hl]) (by simp) (fun q hq => by simp [Array.getElem?_setIfInBounds, Ne.symm hq])
    (fun q hq => by
      rcases List.mem_append.mp hq with h | h
      · exact Or.inl h
      · obtain ⟨z, -, hz⟩ := List.mem_map.mp h
        exact Or.inr (by rw [← hz])) _ hheap X'
  exact ⟨t, step t b1, b2⟩
theorem k_copy {idx : Nat} (hd : decode cc pc = .ok (.invokestatic idx, 3)) (w1 : Cond.methodLink own idx arraycopyName ∈ GW) (w2 : Cond.native arraycopyName ∈ GW) (w3 : Cond.static arraycopyName ∈ GW) (w4 : Cond.initialized "java/lang/System" ∈ GW) : JOk tab cc own nm nL scr pc a_copy := k_wr (fun f h y e => by
  unfold a_copy at e
  split at e
  · split at e
    · split at e <;> cases e
    · cases e
  · cases e) (by
  intro l st h f' h' e
  unfold a_copy at e
  split at e
  · rename_i n dp q sp q0 r hst
    split at e
    · rename_i t0 n0 xs t1 n1 ys hM0 hM1
      split at e
      · rename_i hcc
        obtain ⟨rfl, rfl, hr, g1, g2, g3, g4, g5⟩ := hcc
        cases e
        cases hst
        refine ⟨q, _, rfl, rfl, fun dd p l0 e R s m args below meth c D g A nn nn0 a0 c0 s0 cE sE Q hdd C0 a ls H locs cells slots hR hsz => ?_⟩
        obtain ⟨x1, x2⟩ := hR.okl hM1
        obtain ⟨y1, y2⟩ := hR.okl hM0
        have hat1 := hR.1 q x1 x2
        have hat0 := hR.1 q0 y1 y2
        rw [hM1] at hat1
        rw [hM0] at hat0
        refine ⟨⟨x1, x2, trivial⟩, fun kk => ?_⟩
        obtain ⟨-, -, -, ⟨hml, -⟩, -, -, -, ⟨r1, r2, r3, r4⟩, -⟩ := id C0
        have hr' : ((r.map (tv a)).map fun v => v.category).sum ≤ 8 := by rw [tv_catsum]; exact hr
        have hw : nativeFrameWords "java/lang/System" "arraycopy" 5 + 11 ≤ 28 := by decide +kernel
        exact jw_copy C0.1 C0.2.1 (hml.trans hsz.symm) C0.2.2.1 (C0.2.2.2.2.1 _ w1) (C0.2.2.2.2.1 _ w2) (C0.2.2.2.2.1 _ w3) (C0.2.2.2.2.1 _ w4) C0.2.2.2.2.2.1.1 0 0 hat0 hat1 rfl rfl rfl g1 g2 g3 g4 g5 (fun _ _ => rfl) (by omega) (by omega) hd (fun H1 locs1 e1 e2 e3 e4 => kk H1 locs1 e1 e2 e3 e4)
      · cases e
    · cases e
  · cases e)
/-! returns -/
def a_ret (k : Nat) : JA := fun f h => match f.2.2 with
  | [.int x] => if k = 0 ∨ (k = 1 ∧ (x = 0 ∨ x = 1)) then some (.inr (.inr (.inl (some (.int x))))) else none
  | [.long x] => if k = 2 then some (.inr (.inr (.inl (some (.long x))))) else none
  | [.double x] => if k = 3 then some (.inr (.inr (.inl (some (.double x))))) else none
  | [] => if k = 4 then some (.inr (.inr (.inl none))) else none
  | _ => none
theorem k_ret0 {act : JA} {i : Instr} (hd : decode cc pc = .ok (i, 1)) (ha : ∀ l st h, act (pc, l, st) h = none ∨ ∃ v, act (pc, l, st) h = some (.inr (.inr (.inl v))) ∧ st = v.toList ∧ jRet i v) : JOk tab cc own nm nL scr pc act := by
  refine ⟨fun l st h f' h' e => ?_, fun dd X hdd C l st h => ?_⟩
  · rcases ha l st h with h9 | ⟨v, h9, -⟩ <;> rw [h9] at e <;> cases e
  · rcases ha l st h with h9 | ⟨v, h9, rfl, hr⟩
    · rw [h9]; trivial
    · rw [h9]
      obtain ⟨⟨p, ln, e, R, s⟩, ⟨m, args, below, meth, c⟩, ⟨D, g⟩, ⟨A, n, n0, a0⟩, ⟨c0, s0, cE, sE⟩, Q⟩ := X
      intro k a ls H locs cells slots h1 h2 h3 h4
      exact k a ls H locs cells slots pc i h2 h3 h4 hd hr
theorem k_iret (hd : decode cc pc = .ok (.ireturn, 1)) : JOk tab cc own nm nL scr pc (a_ret 0) := k_ret0 hd (fun l st h => by
  unfold a_ret
  split
  · split
    · exact Or.inr ⟨_, rfl, by assumption, Or.inl ⟨rfl, _, rfl⟩⟩
    · exact Or.inl rfl
  · simp
  · simp
  · simp
  · exact Or.inl rfl)
theorem k_zret (hd : decode cc pc = .ok (.ireturn, 1)) : JOk tab cc own nm nL scr pc (a_ret 1) := k_ret0 hd (fun l st h => by
  unfold a_ret
  split
  · split
    · exact Or.inr ⟨_, rfl, by assumption, Or.inl ⟨rfl, _, rfl⟩⟩
    · exact Or.inl rfl
  · simp
  · simp
  · simp
  · exact Or.inl rfl)
theorem k_lret (hd : decode cc pc = .ok (.lreturn, 1)) : JOk tab cc own nm nL scr pc (a_ret 2) := k_ret0 hd (fun l st h => by
  unfold a_ret
  split
  · simp
  · exact Or.inr ⟨_, rfl, by assumption, Or.inr (Or.inl ⟨rfl, _, rfl⟩)⟩
  · simp
  · simp
  · exact Or.inl rfl)
theorem k_dret (hd : decode cc pc = .ok (.dreturn, 1)) : JOk tab cc own nm nL scr pc (a_ret 3) := k_ret0 hd (fun l st h => by
  unfold a_ret
  split
  · simp
  · simp
  · exact Or.inr ⟨_, rfl, by assumption, Or.inr (Or.inr (Or.inl ⟨rfl, _, rfl⟩))⟩
  · simp
  · exact Or.inl rfl)
theorem k_vret (hd : decode cc pc = .ok (.return_, 1)) : JOk tab cc own nm nL scr pc (a_ret 4) := k_ret0 hd (fun l st h => by
  unfold a_ret
  split
  · simp
  · simp
  · simp
  · exact Or.inr ⟨_, rfl, by assumption, Or.inr (Or.inr (Or.inr ⟨rfl, rfl⟩))⟩
  · exact Or.inl rfl)
end JCL
end
section
section JIV
variable {tab : Nat → JM5} {cc : ByteArray} {own : String} {nm : String × List (Nat × Nat × Nat × Nat)} {nL : Nat} {scr : Option (Nat × (Nat → Int32))} {pc : Nat}
theorem jPre.blind (D : va_G) (g : Nat → ClassId) (a : Nat → Nat) (h : JH) (sz : Nat) (av : List Value) : FrameBlind (va_Pc av (jPre D g a h sz)) := by
  intro v U fr mk q
  obtain ⟨q1, q2, q3, q4, q5⟩ := q
  exact ⟨q1, q2, jK.warm (s := U) (U := U.calling fr mk v) (State.WarmedH.refl U) q3, q4, ⟨vx_Zq.moved (u := U) (U := U.calling fr mk v) (Vm.Alike.refl U.vm) q5.1, vx_Zq.moved (u := U) (U := U.calling fr mk v) (Vm.Alike.refl U.vm) q5.2⟩⟩
section JIV2
variable {p : Program} {l : Launch} {e : Env} {R : Room} {s : State} {m : MethodId} {args : Array Value} {below : List Frame} {meth : Method} {c : Code} {D : va_G} {g : Nat → ClassId} {A : Nat → Prop} {n n0 : Nat} {a0 : Nat → Nat} {c0 s0 cE sE : Nat} {Q : State → Prop}
/-- what a run hands on is inside what it may write -/
theorem jQ.sub {nL dd : Nat} (C : jC cc own nm nL dd scr ((p, l, e, R, s), (m, args, below, meth, c), (D, g), (A, n, n0, a0), (c0, s0, cE, sE), Q)) {a : Nat → Nat} {h : JH} {H : Heap} {locs : List Loc} {cells slots : Nat}
    (hq : jQ ((p, l, e, R, s), (m, args, below, meth, c), (D, g), (A, n, n0, a0), (c0, s0, cE, sE), Q) a h H locs cells slots) : ∀ x, jA a h.1 H.size x → A x := by
  intro x hx
  rcases hx with ⟨q, h0, h1, rfl⟩ | hx
  · exact hq.inA C h0 h1
  · obtain ⟨-, -, -, -, -, -, -, -, ⟨-, hB⟩, -⟩ := C
    exact hB x (Nat.le_trans hq.2.1.1 hx)
theorem jQ.pre {nL dd : Nat} (C : jC cc own nm nL dd scr ((p, l, e, R, s), (m, args, below, meth, c), (D, g), (A, n, n0, a0), (c0, s0, cE, sE), Q)) {a : Nat → Nat} {h : JH} {H : Heap} {locs : List Loc} {cells slots : Nat}
    (hq : jQ ((p, l, e, R, s), (m, args, below, meth, c), (D, g), (A, n, n0, a0), (c0, s0, cE, sE), Q) a h H locs cells slots) {U : State} (hU : U.heap = H) (hW : s.WarmedH U.vm) : jPre D g a h H.size U := by
  have hsub := hq.sub C
  obtain ⟨-, -, -, -, -, hK, ⟨hZ1, hZ2⟩, -⟩ := C
  obtain ⟨k1, ⟨v1, v2, v3⟩, -⟩ := hq
  subst hU
  exact ⟨rfl, jK.warm hW hK, k1, (vx_Zq.moved hW.alike (hZ1.kept v2)).narrow hsub, (vx_Zq.moved hW.alike (hZ2.kept v2)).narrow hsub⟩
/-- behind a call that returns -/
theorem j_after {nL dd : Nat} (C : jC cc own nm nL dd scr ((p, l, e, R, s), (m, args, below, meth, c), (D, g), (A, n, n0, a0), (c0, s0, cE, sE), Q)) {a : Nat → Nat} {h h1 : JH} {H : Heap} {locs : List Loc} {cells slots : Nat} {ls : Array Slot} {lv : List (Nat × Value)} {st0 st' : List Value} {r : Option Value}
    (hl : lv_has ls n (lv.map (fun q => (q.1, tv a q.2))))
    (hq : jQ ((p, l, e, R, s), (m, args, below, meth, c), (D, g), (A, n, n0, a0), (c0, s0, cE, sE), Q) a h H locs cells slots)
    (hr : va_Run p l e R s m args below meth c H locs cells slots (h1.2.1 - h.2.1) (h1.2.2.1 - h.2.2.1) (F0 m pc ls st0) (st'.map (tv a)) (fun st oc t => jPost D g a h h1 H.size r st oc t) (jA a h.1 H.size))
    (hle : jLe h h1) (hfr : h1.1 = h.1 ∨ jfr h.1 (pc + 3, lv, st') = true) (b1 : h1.2.1 ≤ cE) (b2 : h1.2.2.1 ≤ sE)
    (k : jW ((p, l, e, R, s), (m, args, below, meth, c), (D, g), (A, n, n0, a0), (c0, s0, cE, sE), Q) (pc + 3, lv, r.toList ++ st') h1) : W p l e R s m args below meth c H locs cells slots Q (F0 m pc ls st0) := by
  have hsub := hq.sub C
  intro T hT X
  obtain ⟨v, st₀, t, T', L, h0, X', hL, e1, e2, ⟨⟨a', hv, k1, k2, k3, kR⟩, hz, hk⟩, st⟩ := hr T hT X
  cases hv
  rw [h0] at hz hk
  obtain ⟨j1, ⟨v1, v2, v3⟩, j3, j4, j5, j6, j7, j8⟩ := hq
  have hfa : lv.map (fun q => (q.1, tv a' q.2)) = lv.map (fun q => (q.1, tv a q.2)) ∧ st'.map (tv a') = st'.map (tv a) := by
    rcases hfr with h9 | h9
    · rw [k2 h9]; exact ⟨rfl, rfl⟩
    · unfold jfr at h9
      rw [Bool.and_eq_true] at h9
      exact ⟨tvl_congr k1 h9.1, tvs_congr k1 h9.2⟩
  have hqn : jQ ((p, l, e, R, s), (m, args, below, meth, c), (D, g), (A, n, n0, a0), (c0, s0, cE, sE), Q) a' h1 T'.heap (locs ++ L) (cells + (h1.2.1 - h.2.1)) (slots + (h1.2.2.1 - h.2.2.1)) := by
    refine ⟨by rw [e1]; exact kR, ⟨Nat.le_trans v1 (by rw [e1]; exact hz), fun q g1 g2 => ?_, fun q hq => ?_⟩, fun q hq => ?_, fun h9 => ?_, fun q g1 g2 => ?_, Nat.le_trans j6 hle.1, ?_, ?_⟩
    · rw [e1, hk q (Nat.lt_of_lt_of_le g1 v1) (fun z => g2 (hsub q z))]
      exact v2 q g1 g2
    · rcases List.mem_append.mp hq with h | h
      · exact v3 q h
      · exact hsub _ (hL q h)
    · rw [k1 q (Nat.lt_of_lt_of_le hq j6)]
      exact j3 q hq
    · have hh : h.1 = n0 := Nat.le_antisymm (by rw [← h9]; exact hle.1) j6
      rw [k2 (by omega)]
      exact j4 hh
    · rcases Nat.lt_or_ge q h.1 with h9 | h9
      · rw [k1 q h9]
        exact j5 q g1 h9
      · exact Nat.le_trans v1 (k3 q h9 g2)
    · have := hle.2.1; omega
    · have := hle.2.2; omega
  have k' := k a' ls T'.heap (locs ++ L) _ _ (by show lv_has ls n (lv.map _); rw [hfa.1]; exact hl) hqn b1 b2
  have e9 : (r.toList ++ st').map (tv a') = (r.map (tv a')).toList ++ st'.map (tv a) := by
    rw [List.map_append, hfa.2]
    cases r <;> rfl
  obtain ⟨t2, a1, b3⟩ := k' T' rfl X'
  refine ⟨t2, st t2 ?_, b3⟩
  show Steps p.tables e below (T'.setTop (F0 m (pc + 3) ls ((r.map (tv a')).toList ++ st'.map (tv a)))) t2
  rw [← e9]
  exact a1
end JIV2
/-! calls: of an own object, of a plain function, of a constructor -/
def a_inv (μ k ci : Nat) (ct : List (String × Int32)) : JA := fun f h => match f.2.2.drop k with
  | .ref q :: r => match h.2.2.2 q with
    | .inr (c, _) => if c = ci ∧ jcat r ≤ 8 then some (.inr (.inl (μ, .ref q :: (f.2.2.take k).reverse, (f.1 + 3, f.2.1, r), ct))) else none
    | _ => none
  | _ => none
def a_ins (μ k : Nat) : JA := fun f _ => if k ≤ f.2.2.length ∧ jcat (f.2.2.drop k) ≤ 8 then some (.inr (.inl (μ, (f.2.2.take k).reverse, (f.1 + 3, f.2.1, f.2.2.drop k), []))) else none
def a_ini (μ k : Nat) : JA := fun f _ => match f.2.2.drop k with
  | .ref q :: r => if jcat r ≤ 8 then some (.inr (.inl (μ, .ref q :: (f.2.2.take k).reverse, (f.1 + 3, f.2.1, r), []))) else none
  | _ => none
theorem k_call0 {act : JA} (h0 : ∀ f h y, act f h ≠ some (.inl y)) (h1 : ∀ f h y, act f h ≠ some (.inr (.inr y)))
    (hk : ∀ l st h μ as f' ct, act (pc, l, st) h = some (.inr (.inl (μ, as, f', ct))) → ∀ dd X, 1 ≤ dd → jC cc own nm nL dd scr X → jCall tab cc dd X μ as f' ct (pc, l, st) h) : JOk tab cc own nm nL scr pc act := by
  refine ⟨fun l st h f' h' e => absurd e (h0 _ _ _), fun dd X hdd C l st h => ?_⟩
  cases hs : act (pc, l, st) h with
  | none => trivial
  | some z =>
    obtain z | ⟨μ, as, f', ct⟩ | z := z
    · exact absurd hs (h0 _ _ _)
    · exact hk l st h μ as f' ct hs dd X hdd C
    · exact absurd hs (h1 _ _ _)
theorem drop_cons {α : Type} {l : List α} {k : Nat} {x : α} {r : List α} (h : l.drop k = x :: r) : l = l.take k ++ x :: r ∧ (l.take k).length = k := by
  refine ⟨by rw [← h, List.take_append_drop], ?_⟩
  rw [List.length_take]
  have : (l.drop k).length = r.length + 1 := by rw [h]; rfl
  rw [List.length_drop] at this
  omega
end JIV
end
section
section JCO
variable {tab : Nat → JM5} {cc : ByteArray} {own : String} {nm : String × List (Nat × Nat × Nat × Nat)} {nL : Nat} {scr : Option (Nat × (Nat → Int32))} {pc : Nat}
/-- a handler: it stores the exception and answers a number -/
def JCt (cc : ByteArray) (own : String) (nm : String × List (Nat × Nat × Nat × Nat)) (nL pc : Nat) (E : String) (kv : Int32) : Prop := ∃ (pre suf : List ExceptionTableEntry) (x : ExceptionTableEntry) (name : String) (i len : Nat) (z : Int),
  tableOf nm.2 = pre ++ x :: suf ∧ (∀ y ∈ pre, covers y pc = false ∨ (y.catchType ≠ 0 ∧ ∃ nm' : String, Cond.classLink own y.catchType nm' ∈ GW ∧ (E, nm') ∈ NCS)) ∧ covers x pc = true ∧ x.catchType ≠ 0 ∧ Cond.classLink own x.catchType name ∈ GW ∧ Cond.castable E name ∈ NW ∧
  ((∃ n : Fin 4, decode cc x.handlerPc = .ok (.astore_n n, 1) ∧ (n : Nat) = i ∧ len = 1) ∨ (decode cc x.handlerPc = .ok (.astore i, 2) ∧ len = 2)) ∧ i < nL ∧ decode cc (x.handlerPc + len) = .ok (.iconst z, 1) ∧ Int32.ofInt z = kv ∧ decode cc (x.handlerPc + len + 1) = .ok (.ireturn, 1)
theorem j_handler {p : Program} {l : Launch} {e : Env} {R : Room} {s : State} {m : MethodId} {args : Array Value} {below : List Frame} {meth : Method} {c : Code} {D : va_G} {g : Nat → ClassId} {A : Nat → Prop} {n n0 : Nat} {a0 : Nat → Nat} {c0 s0 cE sE : Nat} {Q : State → Prop} {dd : Nat}
    (C : jC cc own nm nL dd scr ((p, l, e, R, s), (m, args, below, meth, c), (D, g), (A, n, n0, a0), (c0, s0, cE, sE), Q)) {E : String} {kv : Int32} (hct : JCt cc own nm nL pc E kv) {a : Nat → Nat} {h1 : JH} {H : Heap} {locs : List Loc} {cells slots : Nat} {ls : Array Slot} {lv : List (Nat × Value)} {rest : List Value}
    (hl : lv_has ls n lv) (hq : jQ ((p, l, e, R, s), (m, args, below, meth, c), (D, g), (A, n, n0, a0), (c0, s0, cE, sE), Q) a h1 H locs cells slots) (b1 : h1.2.1 ≤ cE) (b2 : h1.2.2.1 ≤ sE)
    (hend : jEnd cc ((p, l, e, R, s), (m, args, below, meth, c), (D, g), (A, n, n0, a0), (c0, s0, cE, sE), Q) (some (.int kv)) h1) {q : Addr} {ce : Cell} (hcell : H[q]? = some ce) (hv : ce.vm = .none) (hcl : s.vm.findClass E = some ce.cls) :
    vx_W p l e R s m args below meth c H locs cells slots Q (F0 m pc ls rest) q := by
  obtain ⟨pre, suf, x, name, i, len, z, t1, t2, t3, t4, t5, t6, t7, t8, t9, t10, t11⟩ := hct
  obtain ⟨hx, hb, hown, ⟨hml, hnL⟩, hts, hK, -, -, -, -, -, -, -, htb⟩ := id C
  have hne : nm.2 ≠ [] := fun q => by rw [q] at t1; cases pre <;> cases t1
  refine vx_catch hown pre x suf ((htb hne).trans t1) (fun y hy => ?_) t3 t4 (hts _ t5) (va_Nw.use rfl (hK.2.1 _ t6)) hcell hv hcl ?_
  · rcases t2 y hy with h | ⟨h, nm', w1, w2⟩
    · exact Or.inl h
    · exact Or.inr ⟨h, nm', hts _ w1, hK.2.2.2.2 _ w2⟩
  · have go : ∀ (ls' : Array Slot), W p l e R s m args below meth c H locs cells slots Q (F0 m (x.handlerPc + len) ls' []) := fun ls' =>
      lv_iconst hx hb t9 t10 (hend a ls' H locs cells slots _ _ hq b1 b2 t11 (Or.inl ⟨rfl, _, rfl⟩))
    rcases t7 with ⟨n4, d1, d2, rfl⟩ | ⟨d1, rfl⟩
    · exact lv_astore_n hx hb d1 d2 hl (by omega) rfl (fun ls' _ => go ls')
    · exact lv_astore hx hb d1 hl (by omega) rfl (fun ls' _ => go ls')
theorem jLe.of_con {M : JM5} {d : Nat} {as : List Value} {h h1 : JH} {r : Option Value} (k : Con M d as h r h1) : jLe h h1 := k.1
theorem k_inv {μ k ci idx N : Nat} {ct : List (String × Int32)} {M : JM5} {T : u_T} (hM : tab μ = M) (hh : M.2.2.2.2 = none) (hd : decode cc pc = .ok (.invokevirtual idx, 3)) (hc : vwCl[ci]? = some (M.1.cls, T, N)) (h99 : ci < 99)
    (hpl : M.1.cls ≠ "java/lang/invoke/MethodHandle" ∧ M.1.cls ≠ "java/lang/invoke/VarHandle" ∧ (parseMethodDescriptor M.1.desc).map (fun d => d.parameters.length) = some k) (hL : M.2.2.1 ≤ 17)
    (w0 : Cond.code M.1 M.2.1 M.2.2.1 M.2.2.2.1 ∈ GW) (w1 : Cond.methodLink own idx M.1 ∈ GW) (w2 : Cond.instanceMethod M.1 ∈ GW) (w3 : Cond.selects M.1.cls M.1 M.1 ∈ GW) (w4 : Cond.initialized M.1.cls ∈ GW)
    (hct : ∀ z ∈ ct, JCt cc own nm nL pc z.1 z.2) : JOk tab cc own nm nL scr pc (a_inv μ k ci ct) := k_call0 (fun f h y e => by
  unfold a_inv at e
  split at e
  · split at e
    · split at e <;> cases e
    · cases e
  · cases e) (fun f h y e => by
  unfold a_inv at e
  split at e
  · split at e
    · split at e <;> cases e
    · cases e
  · cases e) (by
  intro l st h μ' as f' ct' e dd X hdd C d hde
  unfold a_inv at e
  split at e
  · rename_i q r hdr
    split at e
    · rename_i cx fs hMq
      split at e
      · rename_i hcc
        obtain ⟨rfl, hr⟩ := hcc
        cases e
        have hdr' : st.drop k = .ref q :: r := hdr
        obtain ⟨hst, hlen⟩ := drop_cons hdr'
        obtain ⟨⟨p, ln, e, R, s⟩, ⟨m, args, below, meth, c⟩, ⟨D, g⟩, ⟨A, n, n0, a0⟩, ⟨c0, s0, cE, sE⟩, Q⟩ := X
        have hw : jws M = Cond.code M.1 M.2.1 M.2.2.1 M.2.2.2.1 :: GW := by
          unfold jws jword
          rw [hh]
        have hG : GoodIn GW (wsV own idx M.1.cls M.1 (jws M)) := gw_goodIn (fun w hw2 => by
          unfold wsV at hw2
          rw [hw] at hw2
          simp only [List.cons_append, List.nil_append, List.mem_cons] at hw2
          rcases hw2 with rfl | rfl | rfl | rfl | rfl | hw2
          · exact w1
          · exact w2
          · exact w3
          · exact w4
          · exact w0
          · exact hw2)
        obtain ⟨hx, hb, hown, ⟨hml, hnL⟩, hts, hK, hZ, ⟨r1, r2, r3, r4⟩, -, -, hfl, -, -, -⟩ := id C
        have hstk : ∀ a : Nat → Nat, st.map (tv a) = (((st.take k).reverse).map (tv a)).reverse ++ .ref (a q) :: r.map (tv a) := fun a => by
          rw [List.map_reverse, List.reverse_reverse, ← show tv a (.ref q) = .ref (a q) from rfl, ← List.map_cons, ← List.map_append, ← hst]
        subst hM
        refine ⟨fun rv h1 hcon hfr b1 b2 kk a ls H locs cells slots hl hq g1 g2 => ?_, fun E kv h1 hcon hin b1 b2 hend a ls H locs cells slots hl hq g1 g2 => ?_⟩
        · have b1' : h1.2.1 ≤ cE := b1
          have b2' : h1.2.2.1 ≤ sE := b2
          have hle := hcon.1
          obtain ⟨z1, z2, z3⟩ := id hle
          obtain ⟨hR, -, -, -, -, -, q1, q2⟩ := id hq
          obtain ⟨x1, x2⟩ := hR.okr hMq h99
          have hat := hR.1 q x1 x2
          rw [hMq] at hat
          show W p ln e R s m args below meth c H locs cells slots Q (F0 m pc ls (st.map (tv a)))
          rw [hstk a]
          refine j_after (h1 := h1) (st' := r) (r := rv) C hl hq ?_ hle hfr b1 b2 kk
          exact va_runV (As := ((st.take k).reverse).map (tv a)) (rest := r.map (tv a)) ⟨hx, hb, hml, hown, hts⟩ (hcon.2 ln D g a H.size hfl) (cwV k hts hG hw rfl rfl ⟨rfl, hpl⟩ ⟨by show d + 1 ≤ _; omega, by show 8 + (_ + 11) + 36 * d ≤ _; omega⟩)
            ⟨jPre.blind D g a h H.size _, va_recv hK.1 (va_P1 hat) hc (q0 := 0) rfl, fun U hU hW => ⟨rfl, hq.pre C hU hW⟩⟩ rfl (by rw [List.length_map, List.length_reverse, hlen]) hl.1 rfl (lv_room (by rw [tv_catsum]; exact hr)) hd ⟨by show cells + _ ≤ _; omega, by show slots + _ ≤ _; omega⟩
        · have b1' : h1.2.1 ≤ cE := b1
          have b2' : h1.2.2.1 ≤ sE := b2
          obtain ⟨⟨hle, heq⟩, hcx⟩ := hcon
          obtain ⟨z1, z2, z3⟩ := id hle
          obtain ⟨hR, ⟨v1, v2, v3⟩, j3, j4, j5, j6, q1, q2⟩ := id hq
          obtain ⟨x1, x2⟩ := hR.okr hMq h99
          have hat := hR.1 q x1 x2
          rw [hMq] at hat
          show W p ln e R s m args below meth c H locs cells slots Q (F0 m pc ls (st.map (tv a)))
          rw [hstk a]
          intro T' hT' X'
          have hrun := vx_runV (As := ((st.take k).reverse).map (tv a)) (rest := r.map (tv a)) (g := F0 m pc ls ((((st.take k).reverse).map (tv a)).reverse ++ .ref (a q) :: r.map (tv a))) ⟨hx, hb, hml, hown, hts⟩ (hcx ln D g a H.size hfl) (cwV k hts hG hw rfl rfl ⟨rfl, hpl⟩ ⟨by show d + 1 ≤ _; omega, by show 8 + (_ + 11) + 36 * d ≤ _; omega⟩)
            ⟨jPre.blind D g a h H.size _, va_recv hK.1 (va_P1 hat) hc (q0 := 0) rfl, fun U hU hW => ⟨rfl, hq.pre C hU hW⟩⟩ rfl (by rw [List.length_map, List.length_reverse, hlen]) hl.1 rfl (lv_room (by rw [tv_catsum]; exact hr)) hd ⟨by show cells + _ ≤ _; omega, by show slots + _ ≤ _; omega⟩ T' hT' X'
          rcases hrun with ⟨v, st₀, t, T2, L, h0, X2, hL, e1, e2, hf, st2⟩ | ⟨qx, st₀, t, T2, L, E', ce, h0, X2, hL, e1, e2, ⟨rfl, hR1, hz, hk⟩, hce, hcv, hcl, st2⟩
          · exact hf.elim
          · rw [h0] at hz hk
            have hsub := hq.sub C
            have hqn : jQ ((p, ln, e, R, s), (m, args, below, meth, c), (D, g), (A, n, n0, a0), (c0, s0, cE, sE), Q) a h1 T2.heap (locs ++ L) (cells + (h1.2.1 - h.2.1)) (slots + (h1.2.2.1 - h.2.2.1)) := by
              refine ⟨by rw [e1]; exact hR1, ⟨Nat.le_trans v1 (by rw [e1]; exact hz), fun q g1 g2 => ?_, fun q hq => ?_⟩, j3, fun h9 => j4 (by rw [← heq]; exact h9), fun q g1 g2 => j5 q g1 (by rw [← heq]; exact g2), by rw [heq]; exact j6, ?_, ?_⟩
              · rw [e1, hk q (Nat.lt_of_lt_of_le g1 v1) (fun z => g2 (hsub q (by rw [← heq]; exact z)))]
                exact v2 q g1 g2
              · rcases List.mem_append.mp hq with h | h
                · exact v3 q h
                · exact hsub _ (hL q h)
              · omega
              · omega
            obtain ⟨t2, a1, b3⟩ := j_handler (rest := r.map (tv a)) C (hct _ hin) hl hqn b1 b2 hend (by rw [e1]; exact hce) hcv hcl T2 rfl X2
            exact ⟨t2, st2.trans a1, b3⟩
      · cases e
    · cases e
  · cases e)
end JCO
end
section
section JCS
variable {tab : Nat → JM5} {cc : ByteArray} {own : String} {nm : String × List (Nat × Nat × Nat × Nat)} {nL : Nat} {scr : Option (Nat × (Nat → Int32))} {pc : Nat}
theorem k_ins {μ k idx : Nat} {M : JM5} (hM : tab μ = M) (hh : M.2.2.2.2 = none) (hd : decode cc pc = .ok (.invokestatic idx, 3))
    (hpl : M.1.cls ≠ "java/lang/invoke/MethodHandle" ∧ M.1.cls ≠ "java/lang/invoke/VarHandle" ∧ (parseMethodDescriptor M.1.desc).map (fun d => d.parameters.length) = some k) (hL : M.2.2.1 ≤ 17)
    (w0 : Cond.code M.1 M.2.1 M.2.2.1 M.2.2.2.1 ∈ GW) (w1 : Cond.methodLink own idx M.1 ∈ GW) (w2 : Cond.static M.1 ∈ GW) (w3 : Cond.initialized M.1.cls ∈ GW) : JOk tab cc own nm nL scr pc (a_ins μ k) := k_call0 (fun f h y e => by
  unfold a_ins at e
  split at e <;> cases e) (fun f h y e => by
  unfold a_ins at e
  split at e <;> cases e) (by
  intro l st h μ' as f' ct' e dd X hdd C d hde
  unfold a_ins at e
  split at e
  · rename_i hcc
    obtain ⟨hlen, hr⟩ := hcc
    cases e
    have hlen' : k ≤ st.length := hlen
    have hr' : jcat (st.drop k) ≤ 8 := hr
    obtain ⟨⟨p, ln, e, R, s⟩, ⟨m, args, below, meth, c⟩, ⟨D, g⟩, ⟨A, n, n0, a0⟩, ⟨c0, s0, cE, sE⟩, Q⟩ := X
    have hw : jws M = Cond.code M.1 M.2.1 M.2.2.1 M.2.2.2.1 :: GW := by
      unfold jws jword
      rw [hh]
    obtain ⟨hx, hb, hown, ⟨hml, hnL⟩, hts, hK, hZ, ⟨r1, r2, r3, r4⟩, -, -, hfl, -, -, -⟩ := id C
    have hstk : ∀ a : Nat → Nat, st.map (tv a) = (((st.take k).reverse).map (tv a)).reverse ++ (st.drop k).map (tv a) := fun a => by
      rw [List.map_reverse, List.reverse_reverse, ← List.map_append, List.take_append_drop]
    subst hM
    refine ⟨fun rv h1 hcon hfr b1 b2 kk a ls H locs cells slots hl hq g1 g2 => ?_, fun E kv h1 hcon hin => absurd hin List.not_mem_nil⟩
    have b1' : h1.2.1 ≤ cE := b1
    have b2' : h1.2.2.1 ≤ sE := b2
    have hle := hcon.1
    obtain ⟨z1, z2, z3⟩ := id hle
    obtain ⟨hR, -, -, -, -, -, q1, q2⟩ := id hq
    show W p ln e R s m args below meth c H locs cells slots Q (F0 m pc ls (st.map (tv a)))
    rw [hstk a]
    refine j_after (h1 := h1) (st' := st.drop k) (r := rv) C hl hq ?_ hle hfr b1 b2 kk
    exact va_runS (As := ((st.take k).reverse).map (tv a)) (rest := (st.drop k).map (tv a)) ⟨hx, hb, hml, hown, hts⟩ (hcon.2 ln D g a H.size hfl) (va_cwS k hts (gw_goodIn (fun w hw2 => by
          unfold va_wsS at hw2
          rw [hw] at hw2
          simp only [List.cons_append, List.nil_append, List.mem_cons] at hw2
          rcases hw2 with rfl | rfl | rfl | rfl | hw2
          · exact w1
          · exact w2
          · exact w3
          · exact w0
          · exact hw2)) hw rfl rfl hpl ⟨by show d + 1 ≤ _; omega, by show 8 + (_ + 11) + 36 * d ≤ _; omega⟩)
      ⟨jPre.blind D g a h H.size _, fun U hU hW => ⟨rfl, hq.pre C hU hW⟩⟩ rfl (by rw [List.length_map, List.length_reverse, List.length_take]; omega) hl.1 rfl (lv_room (by rw [tv_catsum]; exact hr')) hd ⟨by show cells + _ ≤ _; omega, by show slots + _ ≤ _; omega⟩
  · cases e)
theorem k_insW {μ k idx : Nat} {M : JM5} {hh0 : List (Nat × Nat × Nat × Nat)} (hM : tab μ = M) (hh : M.2.2.2.2 = some hh0) (hd : decode cc pc = .ok (.invokestatic idx, 3))
    (hpl : M.1.cls ≠ "java/lang/invoke/MethodHandle" ∧ M.1.cls ≠ "java/lang/invoke/VarHandle" ∧ (parseMethodDescriptor M.1.desc).map (fun d => d.parameters.length) = some k) (hL : M.2.2.1 ≤ 17)
    (w0 : Cond.codeWith M.1 M.2.1 M.2.2.1 M.2.2.2.1 hh0 ∈ GW) (w1 : Cond.methodLink own idx M.1 ∈ GW) (w2 : Cond.static M.1 ∈ GW) (w3 : Cond.initialized M.1.cls ∈ GW) : JOk tab cc own nm nL scr pc (a_ins μ k) := k_call0 (fun f h y e => by
  unfold a_ins at e
  split at e <;> cases e) (fun f h y e => by
  unfold a_ins at e
  split at e <;> cases e) (by
  intro l st h μ' as f' ct' e dd X hdd C d hde
  unfold a_ins at e
  split at e
  · rename_i hcc
    obtain ⟨hlen, hr⟩ := hcc
    cases e
    have hlen' : k ≤ st.length := hlen
    have hr' : jcat (st.drop k) ≤ 8 := hr
    obtain ⟨⟨p, ln, e, R, s⟩, ⟨m, args, below, meth, c⟩, ⟨D, g⟩, ⟨A, n, n0, a0⟩, ⟨c0, s0, cE, sE⟩, Q⟩ := X
    have hw : jws M = Cond.codeWith M.1 M.2.1 M.2.2.1 M.2.2.2.1 hh0 :: GW := by
      unfold jws jword
      rw [hh]
    obtain ⟨hx, hb, hown, ⟨hml, hnL⟩, hts, hK, hZ, ⟨r1, r2, r3, r4⟩, -, -, hfl, -, -, -⟩ := id C
    have hstk : ∀ a : Nat → Nat, st.map (tv a) = (((st.take k).reverse).map (tv a)).reverse ++ (st.drop k).map (tv a) := fun a => by
      rw [List.map_reverse, List.reverse_reverse, ← List.map_append, List.take_append_drop]
    subst hM
    refine ⟨fun rv h1 hcon hfr b1 b2 kk a ls H locs cells slots hl hq g1 g2 => ?_, fun E kv h1 hcon hin => absurd hin List.not_mem_nil⟩
    have b1' : h1.2.1 ≤ cE := b1
    have b2' : h1.2.2.1 ≤ sE := b2
    have hle := hcon.1
    obtain ⟨z1, z2, z3⟩ := id hle
    obtain ⟨hR, -, -, -, -, -, q1, q2⟩ := id hq
    show W p ln e R s m args below meth c H locs cells slots Q (F0 m pc ls (st.map (tv a)))
    rw [hstk a]
    refine j_after (h1 := h1) (st' := st.drop k) (r := rv) C hl hq ?_ hle hfr b1 b2 kk
    exact vx_runSW (As := ((st.take k).reverse).map (tv a)) (rest := (st.drop k).map (tv a)) ⟨hx, hb, hml, hown, hts⟩ (hcon.2 ln D g a H.size hfl) (vx_cwSW k hts (gw_goodIn (fun w hw2 => by
          unfold va_wsS at hw2
          rw [hw] at hw2
          simp only [List.cons_append, List.nil_append, List.mem_cons] at hw2
          rcases hw2 with rfl | rfl | rfl | rfl | hw2
          · exact w1
          · exact w2
          · exact w3
          · exact w0
          · exact hw2)) hw rfl rfl hpl ⟨by show d + 1 ≤ _; omega, by show 8 + (_ + 11) + 36 * d ≤ _; omega⟩)
      ⟨jPre.blind D g a h H.size _, fun U hU hW => ⟨rfl, hq.pre C hU hW⟩⟩ rfl (by rw [List.length_map, List.length_reverse, List.length_take]; omega) hl.1 rfl (lv_room (by rw [tv_catsum]; exact hr')) hd ⟨by show cells + _ ≤ _; omega, by show slots + _ ≤ _; omega⟩
  · cases e)
theorem k_insN {μ k idx : Nat} {M : JM5} {host : String} (hM : tab μ = M) (hh : M.2.2.2.2 = none) (hd : decode cc pc = .ok (.invokestatic idx, 3))
    (hpl : M.1.cls ≠ "java/lang/invoke/MethodHandle" ∧ M.1.cls ≠ "java/lang/invoke/VarHandle" ∧ (parseMethodDescriptor M.1.desc).map (fun d => d.parameters.length) = some k) (hL : M.2.2.1 ≤ 17)
    (w0 : Cond.code M.1 M.2.1 M.2.2.1 M.2.2.2.1 ∈ GW) (w1 : Cond.methodLinkNest own idx M.1 host ∈ NW) (w2 : Cond.static M.1 ∈ GW) (w3 : Cond.initialized M.1.cls ∈ GW) : JOk tab cc own nm nL scr pc (a_ins μ k) := k_call0 (fun f h y e => by
  unfold a_ins at e
  split at e <;> cases e) (fun f h y e => by
  unfold a_ins at e
  split at e <;> cases e) (by
  intro l st h μ' as f' ct' e dd X hdd C d hde
  unfold a_ins at e
  split at e
  · rename_i hcc
    obtain ⟨hlen, hr⟩ := hcc
    cases e
    have hlen' : k ≤ st.length := hlen
    have hr' : jcat (st.drop k) ≤ 8 := hr
    obtain ⟨⟨p, ln, e, R, s⟩, ⟨m, args, below, meth, c⟩, ⟨D, g⟩, ⟨A, n, n0, a0⟩, ⟨c0, s0, cE, sE⟩, Q⟩ := X
    have hw : jws M = Cond.code M.1 M.2.1 M.2.2.1 M.2.2.2.1 :: GW := by
      unfold jws jword
      rw [hh]
    obtain ⟨hx, hb, hown, ⟨hml, hnL⟩, hts, hK, hZ, ⟨r1, r2, r3, r4⟩, -, -, hfl, -, -, -⟩ := id C
    have hstk : ∀ a : Nat → Nat, st.map (tv a) = (((st.take k).reverse).map (tv a)).reverse ++ (st.drop k).map (tv a) := fun a => by
      rw [List.map_reverse, List.reverse_reverse, ← List.map_append, List.take_append_drop]
    subst hM
    refine ⟨fun rv h1 hcon hfr b1 b2 kk a ls H locs cells slots hl hq g1 g2 => ?_, fun E kv h1 hcon hin => absurd hin List.not_mem_nil⟩
    have b1' : h1.2.1 ≤ cE := b1
    have b2' : h1.2.2.1 ≤ sE := b2
    have hle := hcon.1
    obtain ⟨z1, z2, z3⟩ := id hle
    obtain ⟨hR, -, -, -, -, -, q1, q2⟩ := id hq
    show W p ln e R s m args below meth c H locs cells slots Q (F0 m pc ls (st.map (tv a)))
    rw [hstk a]
    refine j_after (h1 := h1) (st' := st.drop k) (r := rv) C hl hq ?_ hle hfr b1 b2 kk
    exact va_runSN (host := host) (As := ((st.take k).reverse).map (tv a)) (rest := (st.drop k).map (tv a)) ⟨hx, hb, hml, hown, hts⟩ (hcon.2 ln D g a H.size hfl) ⟨va_cnB k hts (gw_goodIn (fun w hw2 => by rw [hw] at hw2; exact (List.mem_cons.mp hw2).elim (fun e => e ▸ w0) id)) hw rfl rfl (hK.2.1 _ w1) (hts _ w3) hpl ⟨by show d + 1 ≤ _; omega, by show 8 + (_ + 11) + 36 * d ≤ _; omega⟩, hts _ w2, trivial⟩
      ⟨jPre.blind D g a h H.size _, fun U hU hW => ⟨rfl, hq.pre C hU hW⟩⟩ rfl (by rw [List.length_map, List.length_reverse, List.length_take]; omega) hl.1 rfl (lv_room (by rw [tv_catsum]; exact hr')) hd ⟨by show cells + _ ≤ _; omega, by show slots + _ ≤ _; omega⟩
  · cases e)
theorem k_ini {μ k idx : Nat} {M : JM5} (hM : tab μ = M) (hh : M.2.2.2.2 = none) (hret : M.2.2.2.1 = none) (hin0 : M.1.name = "<init>") (hd : decode cc pc = .ok (.invokespecial idx, 3))
    (hpl : M.1.cls ≠ "java/lang/invoke/MethodHandle" ∧ M.1.cls ≠ "java/lang/invoke/VarHandle" ∧ (parseMethodDescriptor M.1.desc).map (fun d => d.parameters.length) = some k) (hL : M.2.2.1 ≤ 17)
    (w0 : Cond.code M.1 M.2.1 M.2.2.1 M.2.2.2.1 ∈ GW) (w1 : Cond.methodLink own idx M.1 ∈ GW) (w2 : Cond.instanceMethod M.1 ∈ GW) (w3 : Cond.initialized M.1.cls ∈ GW) : JOk tab cc own nm nL scr pc (a_ini μ k) := k_call0 (fun f h y e => by
  unfold a_ini at e
  split at e
  · split at e <;> cases e
  · cases e) (fun f h y e => by
  unfold a_ini at e
  split at e
  · split at e <;> cases e
  · cases e) (by
  intro l st h μ' as f' ct' e dd X hdd C d hde
  unfold a_ini at e
  split at e
  · rename_i q r hdr
    split at e
    · rename_i hr
      cases e
      have hdr' : st.drop k = .ref q :: r := hdr
      obtain ⟨hst, hlen⟩ := drop_cons hdr'
      obtain ⟨⟨p, ln, e, R, s⟩, ⟨m, args, below, meth, c⟩, ⟨D, g⟩, ⟨A, n, n0, a0⟩, ⟨c0, s0, cE, sE⟩, Q⟩ := X
      have hw : jws M = Cond.code M.1 M.2.1 M.2.2.1 none :: GW := by
        unfold jws jword
        rw [hh, hret]
      have w0' : Cond.code M.1 M.2.1 M.2.2.1 none ∈ GW := hret ▸ w0
      obtain ⟨hx, hb, hown, ⟨hml, hnL⟩, hts, hK, hZ, ⟨r1, r2, r3, r4⟩, -, -, hfl, -, -, -⟩ := id C
      have hstk : ∀ a : Nat → Nat, st.map (tv a) = (((st.take k).reverse).map (tv a)).reverse ++ .ref (a q) :: r.map (tv a) := fun a => by
        rw [List.map_reverse, List.reverse_reverse, ← show tv a (.ref q) = .ref (a q) from rfl, ← List.map_cons, ← List.map_append, ← hst]
      subst hM
      refine ⟨fun rv h1 hcon hfr b1 b2 kk a ls H locs cells slots hl hq g1 g2 => ?_, fun E kv h1 hcon hin => absurd hin List.not_mem_nil⟩
      have b1' : h1.2.1 ≤ cE := b1
      have b2' : h1.2.2.1 ≤ sE := b2
      have hle := hcon.1
      obtain ⟨z1, z2, z3⟩ := id hle
      obtain ⟨hR, -, -, -, -, -, q1, q2⟩ := id hq
      show W p ln e R s m args below meth c H locs cells slots Q (F0 m pc ls (st.map (tv a)))
      rw [hstk a]
      refine j_after (h1 := h1) (st' := r) (r := rv) C hl hq ?_ hle hfr b1 b2 kk
      exact va_runI (As := ((st.take k).reverse).map (tv a)) (rest := r.map (tv a)) ⟨hx, hb, hml, hown, hts⟩ (hcon.2 ln D g a H.size hfl) (cwI k hts (gw_goodIn (fun w hw2 => by rw [hw] at hw2; exact (List.mem_cons.mp hw2).elim (fun e => e ▸ w0') id)) hw rfl rfl (hts _ w3) (hts _ w1) (hts _ w2) hin0 hpl ⟨by show d + 1 ≤ _; omega, by show 8 + (_ + 11) + 36 * d ≤ _; omega⟩)
        ⟨jPre.blind D g a h H.size _, fun U hU hW => ⟨rfl, hq.pre C hU hW⟩⟩ rfl (by rw [List.length_map, List.length_reverse, hlen]) hl.1 rfl (lv_room (by rw [tv_catsum]; exact hr)) hd ⟨by show cells + _ ≤ _; omega, by show slots + _ ≤ _; omega⟩
    · cases e
  · cases e)
theorem k_iniN {μ k idx : Nat} {M : JM5} {host : String} (hM : tab μ = M) (hh : M.2.2.2.2 = none) (hret : M.2.2.2.1 = none) (hin0 : M.1.name = "<init>") (hd : decode cc pc = .ok (.invokespecial idx, 3))
    (hpl : M.1.cls ≠ "java/lang/invoke/MethodHandle" ∧ M.1.cls ≠ "java/lang/invoke/VarHandle" ∧ (parseMethodDescriptor M.1.desc).map (fun d => d.parameters.length) = some k) (hL : M.2.2.1 ≤ 17)
    (w0 : Cond.code M.1 M.2.1 M.2.2.1 M.2.2.2.1 ∈ GW) (w1 : Cond.methodLinkNest own idx M.1 host ∈ NW) (w2 : Cond.instanceMethod M.1 ∈ GW) (w3 : Cond.initialized M.1.cls ∈ GW) : JOk tab cc own nm nL scr pc (a_ini μ k) := k_call0 (fun f h y e => by
  unfold a_ini at e
  split at e
  · split at e <;> cases e
  · cases e) (fun f h y e => by
  unfold a_ini at e
  split at e
  · split at e <;> cases e
  · cases e) (by
  intro l st h μ' as f' ct' e dd X hdd C d hde
  unfold a_ini at e
  split at e
  · rename_i q r hdr
    split at e
    · rename_i hr
      cases e
      have hdr' : st.drop k = .ref q :: r := hdr
      obtain ⟨hst, hlen⟩ := drop_cons hdr'
      obtain ⟨⟨p, ln, e, R, s⟩, ⟨m, args, below, meth, c⟩, ⟨D, g⟩, ⟨A, n, n0, a0⟩, ⟨c0, s0, cE, sE⟩, Q⟩ := X
      have hw : jws M = Cond.code M.1 M.2.1 M.2.2.1 none :: GW := by
        unfold jws jword
        rw [hh, hret]
      have w0' : Cond.code M.1 M.2.1 M.2.2.1 none ∈ GW := hret ▸ w0
      obtain ⟨hx, hb, hown, ⟨hml, hnL⟩, hts, hK, hZ, ⟨r1, r2, r3, r4⟩, -, -, hfl, -, -, -⟩ := id C
      have hstk : ∀ a : Nat → Nat, st.map (tv a) = (((st.take k).reverse).map (tv a)).reverse ++ .ref (a q) :: r.map (tv a) := fun a => by
        rw [List.map_reverse, List.reverse_reverse, ← show tv a (.ref q) = .ref (a q) from rfl, ← List.map_cons, ← List.map_append, ← hst]
      subst hM
      refine ⟨fun rv h1 hcon hfr b1 b2 kk a ls H locs cells slots hl hq g1 g2 => ?_, fun E kv h1 hcon hin => absurd hin List.not_mem_nil⟩
      have b1' : h1.2.1 ≤ cE := b1
      have b2' : h1.2.2.1 ≤ sE := b2
      have hle := hcon.1
      obtain ⟨z1, z2, z3⟩ := id hle
      obtain ⟨hR, -, -, -, -, -, q1, q2⟩ := id hq
      show W p ln e R s m args below meth c H locs cells slots Q (F0 m pc ls (st.map (tv a)))
      rw [hstk a]
      refine j_after (h1 := h1) (st' := r) (r := rv) C hl hq ?_ hle hfr b1 b2 kk
      exact va_runIN (host := host) (As := ((st.take k).reverse).map (tv a)) (rest := r.map (tv a)) ⟨hx, hb, hml, hown, hts⟩ (hcon.2 ln D g a H.size hfl) ⟨va_cnB k hts (gw_goodIn (fun w hw2 => by rw [hw] at hw2; exact (List.mem_cons.mp hw2).elim (fun e => e ▸ w0') id)) hw rfl rfl (hK.2.1 _ w1) (hts _ w3) hpl ⟨by show d + 1 ≤ _; omega, by show 8 + (_ + 11) + 36 * d ≤ _; omega⟩, hin0, hts _ w2⟩
        ⟨jPre.blind D g a h H.size _, fun U hU hW => ⟨rfl, hq.pre C hU hW⟩⟩ rfl (by rw [List.length_map, List.length_reverse, hlen]) hl.1 rfl (lv_room (by rw [tv_catsum]; exact hr)) hd ⟨by show cells + _ ≤ _; omega, by show slots + _ ≤ _; omega⟩
    · cases e
  · cases e)
end JCS
end
section
section JTH
/-- the superiors of the exceptions that the program throws -/
def thN : List String := ["java/lang/RuntimeException", "java/lang/Exception"]
theorem nw_tab : ∀ w ∈ NW, w.onTables = true := fun w hw => by
  rcases nw_form w hw with ⟨a, i, x, k, rfl⟩ | ⟨a, b, rfl⟩ | ⟨x, rfl⟩ <;> rfl
theorem th_ot : ∀ w, (w ∈ GW ∨ w ∈ NW) → vx_ot w = true := fun w hw => by
  unfold vx_ot
  rcases hw with h | h
  · rw [gw_good w h, Bool.or_true]
  · rw [nw_tab w h, Bool.true_or]
theorem th_at {D : va_G} {g : Nat → ClassId} {args : Array Value} {s : State} (hts : ∀ w ∈ GW, w.before args s = true) (hK : jK D g s) : ∀ w, (w ∈ GW ∨ w ∈ NW) → w.before args s = true := fun w hw => by
  rcases hw with h | h
  · exact hts w h
  · exact va_Nw.use (nw_tab w h) (hK.2.1 w h)
variable {tab : Nat → JM5} {cc : ByteArray} {own : String} {nm : String × List (Nat × Nat × Nat × Nat)} {nL : Nat} {scr : Option (Nat × (Nat → Int32))} {pc : Nat}
def a_thr (E : String) : JA := fun f _ => if jcat f.2.2 ≤ 8 then some (.inr (.inr (.inr E))) else none
theorem k_thr {E text : String} {ik is ic : Nat} (hfit : Bundle.fit E = true) (w1 : Cond.classLink own ik E ∈ GW) (w2 : Cond.initialized E ∈ GW) (w3 : (own, is, text) ∈ STR) (w4 : ∀ w ∈ vx_atS own ic E thN, w ∈ GW ∨ w ∈ NW)
    (d0 : decode cc pc = .ok (.new ik, 3)) (d3 : decode cc (pc + 3) = .ok (.dup, 1)) (d4 : decode cc (pc + 4) = .ok (.ldc is, 2)) (d6 : decode cc (pc + 6) = .ok (.invokespecial ic, 3)) (d9 : decode cc (pc + 9) = .ok (.athrow, 1)) : JOk tab cc own nm nL scr pc (a_thr E) := by
  refine ⟨fun l st h f' h' e => ?_, fun dd X hdd C l st h => ?_⟩
  · unfold a_thr at e
    split at e <;> cases e
  · show jDo tab cc dd X (pc, l, st) h (if jcat st ≤ 8 then some (.inr (.inr (.inr E))) else none)
    split
    · rename_i hr
      obtain ⟨⟨p, ln, e, R, s⟩, ⟨m, args, below, meth, c⟩, ⟨D, g⟩, ⟨A, n, n0, a0⟩, ⟨c0, s0, cE, sE⟩, Q⟩ := X
      intro h6 hend a ls H locs cells slots hl hq g1 g2
      obtain ⟨hx, hb, hown, ⟨hml, hnL⟩, hts, hK, ⟨hZ1, hZ2⟩, ⟨r1, r2, r3, r4⟩, -, -, hfl, hlk, -, -⟩ := id C
      obtain ⟨Qc, XC, mc, ms, free, rfl, hno, hxc, hfree, hmc, hms, hmR, hsR⟩ := hend a H locs cells slots hq
      obtain ⟨sa, hstr⟩ := hK.2.2.2.1 _ w3
      have hr' : ((st.map (tv a)).map fun v => v.category).sum ≤ 8 := by rw [tv_catsum]; exact hr
      refine vx_throwS (sa := sa) (names := thN) hx hb hfl hown hfit (by decide +kernel) (hts _ w1) (hts _ w2) hstr (fun w hw => th_at hts hK w (w4 w hw)) (fun w hw => ?_) hZ1 hZ2 hq.2.1 (hl.1.trans hml.symm) d0 d3 d4 d6 d9 (fun x hx => (hno x hx).elim) (by show 2 + 3 < _; omega) (by show ((st.map (tv a)).map fun v => v.category).sum + (13 * (2 + 1) + 43) ≤ _; omega) (by omega) (by omega) hlk hxc hfree hmc hms
      rcases List.mem_cons.mp hw with rfl | hw
      · exact th_ot _ (Or.inl w1)
      · rcases List.mem_cons.mp hw with rfl | hw
        · exact th_ot _ (Or.inl w2)
        · exact th_ot _ (w4 w hw)
    · trivial
theorem k_thrW {E text : String} {ik is ic : Nat} (hfit : Bundle.fit E = true) (w1 : Cond.classLink own ik E ∈ GW) (w2 : Cond.initialized E ∈ GW) (w3 : (own, is, text) ∈ STR) (w4 : ∀ w ∈ vx_atS own ic E thN, w ∈ GW ∨ w ∈ NW)
    (d0 : decode cc pc = .ok (.new ik, 3)) (d3 : decode cc (pc + 3) = .ok (.dup, 1)) (d4 : decode cc (pc + 4) = .ok (.ldc_w is, 3)) (d7 : decode cc (pc + 7) = .ok (.invokespecial ic, 3)) (d10 : decode cc (pc + 10) = .ok (.athrow, 1)) : JOk tab cc own nm nL scr pc (a_thr E) := by
  refine ⟨fun l st h f' h' e => ?_, fun dd X hdd C l st h => ?_⟩
  · unfold a_thr at e
    split at e <;> cases e
  · show jDo tab cc dd X (pc, l, st) h (if jcat st ≤ 8 then some (.inr (.inr (.inr E))) else none)
    split
    · rename_i hr
      obtain ⟨⟨p, ln, e, R, s⟩, ⟨m, args, below, meth, c⟩, ⟨D, g⟩, ⟨A, n, n0, a0⟩, ⟨c0, s0, cE, sE⟩, Q⟩ := X
      intro h6 hend a ls H locs cells slots hl hq g1 g2
      obtain ⟨hx, hb, hown, ⟨hml, hnL⟩, hts, hK, ⟨hZ1, hZ2⟩, ⟨r1, r2, r3, r4⟩, -, -, hfl, hlk, -, -⟩ := id C
      obtain ⟨Qc, XC, mc, ms, free, rfl, hno, hxc, hfree, hmc, hms, hmR, hsR⟩ := hend a H locs cells slots hq
      obtain ⟨sa, hstr⟩ := hK.2.2.2.1 _ w3
      have hr' : ((st.map (tv a)).map fun v => v.category).sum ≤ 8 := by rw [tv_catsum]; exact hr
      refine vx_throwSW (sa := sa) (names := thN) hx hb hfl hown hfit (by decide +kernel) (hts _ w1) (hts _ w2) hstr (fun w hw => th_at hts hK w (w4 w hw)) (fun w hw => ?_) hZ1 hZ2 hq.2.1 (hl.1.trans hml.symm) d0 d3 d4 d7 d10 (fun x hx => (hno x hx).elim) (by show 2 + 3 < _; omega) (by show ((st.map (tv a)).map fun v => v.category).sum + (13 * (2 + 1) + 43) ≤ _; omega) (by omega) (by omega) hlk hxc hfree hmc hms
      rcases List.mem_cons.mp hw with rfl | hw
      · exact th_ot _ (Or.inl w1)
      · rcases List.mem_cons.mp hw with rfl | hw
        · exact th_ot _ (Or.inl w2)
        · exact th_ot _ (w4 w hw)
    · trivial
end JTH
theorem th_split {own X : String} {ic : Nat} (h : ∀ w ∈ Bundle.ownAtoms own ic X thN, vx_no w = true → w ∈ GW ∨ w ∈ NW) : ∀ w ∈ vx_atS own ic X thN, w ∈ GW ∨ w ∈ NW := fun w hw => h w (List.mem_filter.mp hw).1 (List.mem_filter.mp hw).2
theorem th_w42 : ∀ w ∈ vx_atS RX6 42 "java/lang/IllegalArgumentException" thN, w ∈ GW ∨ w ∈ NW := th_split (by
  unfold Bundle.ownAtoms Bundle.throwableAtoms Bundle.throwableSAtoms thN
  simp only [Bundle.chainSAtoms, Bundle.passSAtoms, List.cons_append, List.nil_append, List.append_assoc, List.forall_mem_cons]
  repeat' apply And.intro
  all_goals first
    | exact fun _ => Or.inl (gw_of (by decide +kernel) rfl)
    | exact fun _ => Or.inr (by decide +kernel)
    | exact fun h => absurd h (by decide +kernel)
    | exact fun _ h => absurd h List.not_mem_nil)
theorem th_w63 : ∀ w ∈ vx_atS RX6 63 "java/lang/IndexOutOfBoundsException" thN, w ∈ GW ∨ w ∈ NW := th_split (by
  unfold Bundle.ownAtoms Bundle.throwableAtoms Bundle.throwableSAtoms thN
  simp only [Bundle.chainSAtoms, Bundle.passSAtoms, List.cons_append, List.nil_append, List.append_assoc, List.forall_mem_cons]
  repeat' apply And.intro
  all_goals first
    | exact fun _ => Or.inl (gw_of (by decide +kernel) rfl)
    | exact fun _ => Or.inr (by decide +kernel)
    | exact fun h => absurd h (by decide +kernel)
    | exact fun _ h => absurd h List.not_mem_nil)
theorem th_w117 : ∀ w ∈ vx_atS RX6 117 "java/lang/IllegalStateException" thN, w ∈ GW ∨ w ∈ NW := th_split (by
  unfold Bundle.ownAtoms Bundle.throwableAtoms Bundle.throwableSAtoms thN
  simp only [Bundle.chainSAtoms, Bundle.passSAtoms, List.cons_append, List.nil_append, List.append_assoc, List.forall_mem_cons]
  repeat' apply And.intro
  all_goals first
    | exact fun _ => Or.inl (gw_of (by decide +kernel) rfl)
    | exact fun _ => Or.inr (by decide +kernel)
    | exact fun h => absurd h (by decide +kernel)
    | exact fun _ h => absurd h List.not_mem_nil)
end
section
/-! runs, and their soundness -/
def jlk (cd : List (Nat × JA)) (pc : Nat) : Option JA := match cd with
  | [] => none
  | q :: r => if q.1 = pc then some q.2 else jlk r pc
theorem jlk_mem {pc : Nat} {act : JA} : ∀ {cd : List (Nat × JA)}, jlk cd pc = some act → (pc, act) ∈ cd
  | [], h => by cases h
  | q :: r, h => by
    unfold jlk at h
    by_cases e : q.1 = pc
    · rw [if_pos e] at h
      cases h
      rw [← e]
      exact List.mem_cons_self
    · rw [if_neg e] at h
      exact List.mem_cons_of_mem _ (jlk_mem h)
abbrev JE : Type := Nat → List Value → JH → JO → JH → Prop
def jbump (h : JH) : JH := (h.1, h.2.1 + 1, h.2.2.1 + 6, h.2.2.2)
def jst (E : JE) (K : JF → JH → JO → JH → Prop) (r : Option ((JF × JH) ⊕ ((Nat × List Value × JF × List (String × Int32)) ⊕ JO))) (h : JH) (o : JO) (hf : JH) : Prop := match r with
  | none => False
  | some (.inl (f', h')) => K f' h' o hf
  | some (.inr (.inl (μ, as, f', ct))) => (∃ rv h1, E μ as h (.inl rv) h1 ∧ (h1.1 = h.1 ∨ jfr h.1 f' = true) ∧ K (f'.1, f'.2.1, rv.toList ++ f'.2.2) h1 o hf) ∨ (∃ X kv h1, E μ as h (.inr X) h1 ∧ (X, kv) ∈ ct ∧ o = .inl (some (.int kv)) ∧ hf = h1)
  | some (.inr (.inr (.inl v))) => o = .inl v ∧ hf = h
  | some (.inr (.inr (.inr X))) => o = .inr X ∧ hf = jbump h
def JG (E : JE) (cd : List (Nat × JA)) : Nat → JF → JH → JO → JH → Prop
  | 0, _, _, _, _ => False
  | k + 1, f, h, o, hf => ∃ act, jlk cd f.1 = some act ∧ jst E (JG E cd k) (act f h) h o hf
def jrv (ret : Option FieldType) (v : Option Value) : Prop := match ret, v with
  | none, none => True
  | some .int, some (.int _) => True
  | some .boolean, some (.int x) => x = 0 ∨ x = 1
  | some .long, some (.long _) => True
  | some .double, some (.double _) => True
  | _, _ => False
def jchk (d : Nat) (M : JM5) (as : List Value) (o : JO) : Prop := (lg_sl as).length ≤ M.2.2.1 ∧ match o with
  | .inl v => jrv M.2.2.2.1 v
  | .inr _ => 6 ≤ d ∧ M.2.2.2.2 = none
def Ev (tab : Nat → JM5) (code : Nat → List (Nat × JA)) : Nat → JE
  | 0 => fun _ _ _ _ _ => False
  | d + 1 => fun μ as h o hf => jchk (d + 1) (tab μ) as o ∧ (∀ x, o = .inr x → hf.1 = h.1) ∧ ∃ k, JG (Ev tab code d) (code μ) k (0, lv_args 0 as, []) h o hf
section JSND
variable {tab : Nat → JM5} {code : Nat → List (Nat × JA)}
def jEok (tab : Nat → JM5) (d : Nat) (E : JE) : Prop := ∀ μ as h, (∀ r h1, E μ as h (.inl r) h1 → Con (tab μ) d as h r h1) ∧ (∀ x h1, E μ as h (.inr x) h1 → ConX (tab μ) d as h x h1)
def jFin (cc : ByteArray) (X : JX) (dd : Nat) (o : JO) (hf : JH) : Prop := match o with
  | .inl v => jEnd cc X v hf
  | .inr x => 6 ≤ dd ∧ ∀ h, hf = jbump h → jEndX X x h
theorem jbump_le (h : JH) : jLe h (jbump h) := ⟨Nat.le_refl _, Nat.le_add_right _ _, Nat.le_add_right _ _⟩
theorem run_le {E : JE} {d : Nat} {cc : ByteArray} {own : String} {nm : String × List (Nat × Nat × Nat × Nat)} {nL : Nat} {scr : Option (Nat × (Nat → Int32))} {cd : List (Nat × JA)} (hE : jEok tab d E) (hcd : ∀ q ∈ cd, JOk tab cc own nm nL scr q.1 q.2) {o : JO} {hf : JH} : ∀ (k : Nat) (f : JF) (h : JH), JG E cd k f h o hf → jLe h hf
  | 0, _, _, h => h.elim
  | k + 1, (pc, l, st), h, ⟨act, hlk, hst⟩ => by
    have ok := hcd _ (jlk_mem hlk)
    cases ha : act (pc, l, st) h with
    | none => rw [ha] at hst; exact hst.elim
    | some z =>
      rw [ha] at hst
      obtain ⟨f', h'⟩ | ⟨μ, as, f', ct⟩ | v | x := z
      · exact (ok.1 l st h f' h' ha).trans (run_le hE hcd k f' h' hst)
      · rcases hst with ⟨rv, h1, e1, -, e3⟩ | ⟨X, kv, h1, e1, -, -, rfl⟩
        · exact ((hE μ as h).1 rv h1 e1).1.trans (run_le hE hcd k _ h1 e3)
        · exact ((hE μ as h).2 X _ e1).1.1
      · obtain ⟨-, rfl⟩ := hst
        exact jLe.rf
      · obtain ⟨-, rfl⟩ := hst
        exact jbump_le h
theorem run_ok {E : JE} {d : Nat} {cc : ByteArray} {own : String} {nm : String × List (Nat × Nat × Nat × Nat)} {nL : Nat} {scr : Option (Nat × (Nat → Int32))} {cd : List (Nat × JA)} (hE : jEok tab d E) (hcd : ∀ q ∈ cd, JOk tab cc own nm nL scr q.1 q.2) {X : JX} (C : jC cc own nm nL (d + 1) scr X) {o : JO} {hf : JH} (hend : jFin cc X (d + 1) o hf)
    (b1 : hf.2.1 ≤ (match X with | (_, _, _, _, (_, _, cE, _), _) => cE)) (b2 : hf.2.2.1 ≤ (match X with | (_, _, _, _, (_, _, _, sE), _) => sE)) : ∀ (k : Nat) (f : JF) (h : JH), JG E cd k f h o hf → jW X f h
  | 0, _, _, h => h.elim
  | k + 1, (pc, l, st), h, ⟨act, hlk, hst⟩ => by
    have ok : jDo tab cc (d + 1) X (pc, l, st) h (act (pc, l, st) h) := (hcd _ (jlk_mem hlk)).2 (d + 1) X (Nat.succ_pos d) C l st h
    cases ha : act (pc, l, st) h with
    | none => rw [ha] at hst; exact hst.elim
    | some z =>
      rw [ha] at hst ok
      obtain ⟨f', h'⟩ | ⟨μ, as, f', ct⟩ | v | x := z
      · have hle := run_le hE hcd k f' h' hst
        exact ok (Nat.le_trans hle.2.1 b1) (Nat.le_trans hle.2.2 b2) (run_ok hE hcd C hend b1 b2 k f' h' hst)
      · rcases hst with ⟨rv, h1, e1, e2, e3⟩ | ⟨x, kv, h1, e1, e2, rfl, rfl⟩
        · have hle := run_le hE hcd k _ h1 e3
          exact (ok d rfl).1 rv h1 ((hE μ as h).1 rv h1 e1) e2 (Nat.le_trans hle.2.1 b1) (Nat.le_trans hle.2.2 b2) (run_ok hE hcd C hend b1 b2 k _ h1 e3)
        · exact (ok d rfl).2 x kv _ ((hE μ as h).2 x _ e1) e2 b1 b2 hend
      · obtain ⟨rfl, rfl⟩ := hst
        exact ok hend
      · obtain ⟨rfl, rfl⟩ := hst
        exact ok hend.1 (hend.2 h rfl)
/-- what the tables say of a method -/
def jTab (tab : Nat → JM5) (code : Nat → List (Nat × JA)) : Prop := ∀ μ, plainName (tab μ).1.cls = true ∧ ∀ q ∈ code μ, JOk tab (tab μ).2.1 (tab μ).1.cls ((tab μ).1.name, (tab μ).2.2.2.2.getD []) (tab μ).2.2.1 none q.1 q.2
theorem jrv_bool {x : Int32} (h : x = 0 ∨ x = 1) : narrow .boolean (.int x) = .int x := by
  rcases h with rfl | rfl <;> decide +kernel
/-- a method's own end -/
theorem j_end {p : Program} {l : Launch} {e : Env} {R : Room} {s : State} {m : MethodId} {args : Array Value} {below : List Frame} {meth : Method} {c : Code} {D : va_G} {g : Nat → ClassId} {nL : Nat} {a0 : Nat → Nat} {M : JM5} {own : String} {nm : String × List (Nat × Nat × Nat × Nat)} {dd : Nat} {h h1 : JH} {r : Option Value} {mc ms : Nat}
    (hx : p.tables.exec = Jvm.exec) (hb : c.code = M.2.1) (hr : meth.sig.returnType = M.2.2.2.1) (hlocks : meth.locks = false) (hv : jrv M.2.2.2.1 r) (hle : jLe h h1) (hmc : mc = h1.2.1 - h.2.1) (hms : ms = h1.2.2.1 - h.2.2.1) :
    jEnd M.2.1 ((p, l, e, R, s), (m, args, below, meth, c), (D, g), (jA a0 h.1 s.heap.size, nL, h.1, a0), (h.2.1, h.2.2.1, h1.2.1, h1.2.2.1), MQ below (fun _ st oc t => jPost D g a0 h h1 s.heap.size r st oc t) args s mc ms (jA a0 h.1 s.heap.size)) r h1 := by
  intro a ls H locs cells slots pc i hq g1 g2 hd hret
  obtain ⟨kR, kS, k3, k4, k5, k6, k7, k8⟩ := hq
  obtain ⟨z1, z2, z3⟩ := id hle
  have hpost : ∀ t : State, t.heap = H → s.WarmedH t.vm → jPost D g a0 h h1 s.heap.size r s (.returned (r.map (tv a))) t := fun t ht hW =>
    ⟨⟨a, rfl, k3, k4, k5, by rw [ht]; exact kR⟩, kS.F ht⟩
  refine W.widen (k := mc) (n := ms) (by omega) (by omega) ?_
  rcases hret with ⟨rfl, x, rfl⟩ | ⟨rfl, x, rfl⟩ | ⟨rfl, x, rfl⟩ | ⟨rfl, rfl⟩
  · cases hrt : M.2.2.2.1 with
    | none => rw [hrt] at hv; exact hv.elim
    | some ty =>
      rw [hrt] at hv hr
      cases ty <;> first | exact hv.elim | skip
      · exact W.iret hx hb hr hpost kS.2.2 hd hlocks
      · exact W.zret hx hb hr (jrv_bool hv) hpost kS.2.2 hd hlocks
  · cases hrt : M.2.2.2.1 with
    | none => rw [hrt] at hv; exact hv.elim
    | some ty =>
      rw [hrt] at hv hr
      cases ty <;> first | exact hv.elim | skip
      exact W.lret hx hb hr hpost kS.2.2 hd hlocks
  · cases hrt : M.2.2.2.1 with
    | none => rw [hrt] at hv; exact hv.elim
    | some ty =>
      rw [hrt] at hv hr
      cases ty <;> first | exact hv.elim | skip
      exact W.dret hx hb hr hpost kS.2.2 hd hlocks
  · cases hrt : M.2.2.2.1 with
    | none =>
      rw [hrt] at hr
      exact W.vret hx hb hr hpost kS.2.2 hd hlocks
    | some ty => rw [hrt] at hv; cases ty <;> exact hv.elim
end JSND
end
section
section JCON
variable {tab : Nat → JM5} {code : Nat → List (Nat × JA)}
/-- the surroundings of a method's run at its entry -/
theorem j_ctx {p : Program} {l : Launch} {e : Env} {s : State} {m : MethodId} {args : Array Value} {below : List Frame} {meth : Method} {c : Code} {D : va_G} {g : Nat → ClassId} {a : Nat → Nat} {M : JM5} {d : Nat} {h h1 : JH} {Q : State → Prop}
    (hx : p.tables.exec = Jvm.exec) (hb : c.code = M.2.1) (hown : s.vm.findClass M.1.cls = some m.cls) (hml : c.maxLocals = M.2.2.1) (hts : ∀ w ∈ GW, w.before args s = true) (hp : jPre D g a h s.heap.size s) (hle : jLe h h1) (hfl : l.stackTraces = false) (hlk : meth.locks = false) (hnm : meth.name = M.1.name) (htb : c.exceptionTable.toList = tableOf (M.2.2.2.2.getD [])) :
    jC M.2.1 M.1.cls (M.1.name, M.2.2.2.2.getD []) M.2.2.1 d none ((p, l, e, { frames := d, cells := h1.2.1 - h.2.1, slots := h1.2.2.1 - h.2.2.1, locals := 36 * d }, s), (m, args, below, meth, c), (D, g), (jA a h.1 s.heap.size, M.2.2.1, h.1, a), (h.2.1, h.2.2.1, h1.2.1, h1.2.2.1), Q) := by
  obtain ⟨z1, z2, z3⟩ := id hle
  obtain ⟨-, hK, hR, hZ⟩ := hp
  exact ⟨hx, hb, hown, ⟨hml, rfl⟩, hts, hK, hZ, ⟨Nat.le_refl _, Nat.le_refl _, by show h1.2.1 ≤ h.2.1 + (h1.2.1 - h.2.1); omega, by show h1.2.2.1 ≤ h.2.2.1 + (h1.2.2.1 - h.2.2.1); omega⟩, ⟨fun q h0 h1 => Or.inl ⟨q, h0, h1, rfl⟩, fun x hx => Or.inr hx⟩, (fun _ _ h => nomatch h), hfl, hlk, fun q => hnm.trans q, fun _ => htb⟩
theorem j_begin {p : Program} {l : Launch} {e : Env} {R : Room} {s : State} {m : MethodId} {below : List Frame} {meth : Method} {c : Code} {D : va_G} {g : Nat → ClassId} {a : Nat → Nat} {nL : Nat} {as : List Value} {h h1 : JH} {Q : State → Prop} (hn : (lg_sl as).length ≤ nL) (hp : jPre D g a h s.heap.size s) (hle : jLe h h1)
    (k : jW ((p, l, e, R, s), (m, (as.map (tv a)).toArray, below, meth, c), (D, g), (jA a h.1 s.heap.size, nL, h.1, a), (h.2.1, h.2.2.1, h1.2.1, h1.2.2.1), Q) (0, lv_args 0 as, []) h) : W p l e R s m (as.map (tv a)).toArray below meth c s.heap [] 0 0 Q (entryFrame m (as.map (tv a)).toArray nL) := by
  rw [lg_entry_eq]
  have hsl : ∀ vs : List Value, (lg_sl (vs.map (tv a))).length = (lg_sl vs).length := by
    intro vs
    induction vs with
    | nil => rfl
    | cons v vs ih =>
      have e1 : lg_sl ((v :: vs).map (tv a)) = (if (tv a v).category = 2 then [.val (tv a v), .second] else [.val (tv a v)]) ++ lg_sl (vs.map (tv a)) := rfl
      have e2 : lg_sl (v :: vs) = (if v.category = 2 then [.val v, .second] else [.val v]) ++ lg_sl vs := rfl
      rw [e1, e2, List.length_append, List.length_append, ih, tv_cat]
      split <;> rfl
  have hl := lv_entry (as.map (tv a)) (n := nL) (by rw [hsl]; exact hn)
  rw [lv_args_tv] at hl
  exact k a _ s.heap [] 0 0 hl ⟨hp.2.2.1, va_S.rf, fun _ _ => rfl, fun _ => rfl, fun q h0 h1 => absurd h1 (Nat.not_lt.mpr h0), Nat.le_refl _, rfl, rfl⟩ hle.2.1 hle.2.2
theorem table_none {x y : MethodName} {S : Spec} {p : Program} {l : Launch} {e : Env} {s s₁ : State} {m : MethodId} {args : Array Value} {below : List Frame} {meth : Method} {c : Code} {cc bytes : ByteArray} {maxL maxL' : Nat} {ret ret' : Option FieldType}
    (B : BodyLoose p l y S cc maxL ret e s m args below meth c s₁) (h : (Cond.code y bytes maxL' ret').before args s = true) : c.exceptionTable.toList = [] := by
  obtain ⟨meth9, c9, h1, h2, -, -, -, -, h7, -⟩ := Cond.code_spec B.named h
  cases Option.some.inj (h1.symm.trans B.method)
  cases Option.some.inj (h2.symm.trans (Stand.of_body B).code)
  rw [Array.isEmpty_iff.mp h7]
theorem con_of {d : Nat} {E : JE} {M : JM5} {cd : List (Nat × JA)} {as : List Value} {h h1 : JH} {r : Option Value} (hE : jEok tab d E) (hpl : plainName M.1.cls = true) (hcd : ∀ q ∈ cd, JOk tab M.2.1 M.1.cls (M.1.name, M.2.2.2.2.getD []) M.2.2.1 none q.1 q.2) (hck : jchk (d + 1) M as (.inl r)) {k : Nat} (hG : JG E cd k (0, lv_args 0 as, []) h (.inl r) h1) : Con M (d + 1) as h r h1 := by
  have hle := run_le hE hcd k _ _ hG
  refine ⟨hle, fun l D g a sz hfl => ?_⟩
  cases hh : M.2.2.2.2 with
  | none =>
    refine Met.ofW (cc := M.2.1) (maxL := M.2.2.1) (ret := M.2.2.2.1) (ws' := GW) hpl (by unfold jws jword; rw [hh]) ?_
    intro p e s m args below meth c s₁ B hml hv
    obtain ⟨rfl, hp⟩ := hv
    obtain ⟨rfl⟩ : s.heap.size = sz := hp.1
    have hall := atoms_spec (ws := jws M) B.pre
    have hts : ∀ w ∈ GW, w.before (as.map (tv a)).toArray s = true := fun w hw => hall w (List.mem_cons_of_mem _ hw)
    have hcw : (Cond.code M.1 M.2.1 M.2.2.1 M.2.2.2.1).before (as.map (tv a)).toArray s = true := by
      have := hall _ List.mem_cons_self
      unfold jword at this
      rw [hh] at this
      exact this
    have htb := table_none (x := M.1) B hcw
    refine j_begin hck.1 hp hle (run_ok hE hcd (j_ctx B.exec B.bytes (findClass_of_methodNamed B.named) hml hts hp hle hfl B.notSynchronized (name_of_methodNamed B.named B.method).1 (by rw [htb, hh]; rfl)) (o := .inl r) (hf := h1) ?_ (Nat.le_refl _) (Nat.le_refl _) k _ _ hG)
    exact j_end (own := M.1.cls) (nm := (M.1.name, [])) (dd := d) B.exec B.bytes B.returns B.notSynchronized hck.2 hle rfl rfl
  | some hh0 =>
    refine va_MetW (cc := M.2.1) (maxL := M.2.2.1) (ret := M.2.2.2.1) (hh := hh0) (ws' := GW) hpl (by unfold jws jword; rw [hh]) ?_
    intro p e s m args below meth c s₁ B hml hv
    obtain ⟨rfl, hp⟩ := hv
    obtain ⟨rfl⟩ : s.heap.size = sz := hp.1
    have hall := atoms_spec (ws := jws M) B.pre
    have hts : ∀ w ∈ GW, w.before (as.map (tv a)).toArray s = true := fun w hw => hall w (List.mem_cons_of_mem _ hw)
    have hcw : (Cond.codeWith M.1 M.2.1 M.2.2.1 M.2.2.2.1 hh0).before (as.map (tv a)).toArray s = true := by
      have := hall _ List.mem_cons_self
      unfold jword at this
      rw [hh] at this
      exact this
    have htb := vx_table (x := M.1) B hcw
    refine j_begin hck.1 hp hle (run_ok hE hcd (j_ctx B.exec B.bytes (findClass_of_methodNamed B.named) hml hts hp hle hfl B.notSynchronized (name_of_methodNamed B.named B.method).1 (by rw [htb, hh]; rfl)) (o := .inl r) (hf := h1) ?_ (Nat.le_refl _) (Nat.le_refl _) k _ _ hG)
    exact j_end (own := M.1.cls) (nm := (M.1.name, [])) (dd := d) B.exec B.bytes B.returns B.notSynchronized hck.2 hle rfl rfl
/-- a run that throws keeps the cells' count -/
theorem run_n {E : JE} {d : Nat} {cc : ByteArray} {own : String} {nm : String × List (Nat × Nat × Nat × Nat)} {nL : Nat} {scr : Option (Nat × (Nat → Int32))} {cd : List (Nat × JA)} (hE : jEok tab d E) (hcd : ∀ q ∈ cd, JOk tab cc own nm nL scr q.1 q.2) {x : String} {hf : JH} : ∀ (k : Nat) (f : JF) (h : JH), JG E cd k f h (.inr x) hf → ∃ h', hf = jbump h' ∧ jLe h h'
  | 0, _, _, h => h.elim
  | k + 1, (pc, l, st), h, ⟨act, hlk, hst⟩ => by
    have ok := hcd _ (jlk_mem hlk)
    cases ha : act (pc, l, st) h with
    | none => rw [ha] at hst; exact hst.elim
    | some z =>
      rw [ha] at hst
      obtain ⟨f', h'⟩ | ⟨μ, as, f', ct⟩ | v | x := z
      · obtain ⟨h2, e1, e2⟩ := run_n hE hcd k f' h' hst
        exact ⟨h2, e1, (ok.1 l st h f' h' ha).trans e2⟩
      · rcases hst with ⟨rv, h1, e1, -, e3⟩ | ⟨X, kv, h1, -, -, e4, -⟩
        · obtain ⟨h2, e4, e5⟩ := run_n hE hcd k _ h1 e3
          exact ⟨h2, e4, ((hE μ as h).1 rv h1 e1).1.trans e5⟩
        · cases e4
      · obtain ⟨e4, -⟩ := hst
        cases e4
      · obtain ⟨-, rfl⟩ := hst
        exact ⟨h, rfl, jLe.rf⟩
theorem conX_of {d : Nat} {E : JE} {M : JM5} {cd : List (Nat × JA)} {as : List Value} {h h1 : JH} {x : String} (hE : jEok tab d E) (hpl : plainName M.1.cls = true) (hcd : ∀ q ∈ cd, JOk tab M.2.1 M.1.cls (M.1.name, M.2.2.2.2.getD []) M.2.2.1 none q.1 q.2) (hck : jchk (d + 1) M as (.inr x)) (hn : h1.1 = h.1) {k : Nat} (hG : JG E cd k (0, lv_args 0 as, []) h (.inr x) h1) : ConX M (d + 1) as h x h1 := by
  have hle := run_le hE hcd k _ _ hG
  refine ⟨⟨hle, hn⟩, fun l D g a sz hfl => ?_⟩
  obtain ⟨hck1, hck2, hh⟩ := hck
  refine vx_ofW (cc := M.2.1) (maxL := M.2.2.1) (ret := M.2.2.2.1) (ws' := GW) hpl (by unfold jws jword; rw [hh]) ?_
  intro p e s m args below meth c s₁ B hml ht hv
  obtain ⟨rfl, hp⟩ := hv
  obtain ⟨rfl⟩ : s.heap.size = sz := hp.1
  have hall := atoms_spec (ws := jws M) B.pre
  have hts : ∀ w ∈ GW, w.before (as.map (tv a)).toArray s = true := fun w hw => hall w (List.mem_cons_of_mem _ hw)
  have htb : c.exceptionTable.toList = [] := by
    cases he : c.exceptionTable.toList with
    | nil => rfl
    | cons y r => exact (ht y (by rw [he]; exact List.mem_cons_self)).elim
  refine j_begin hck1 hp hle (run_ok hE hcd (j_ctx B.exec B.bytes (findClass_of_methodNamed B.named) hml hts hp hle hfl B.notSynchronized (name_of_methodNamed B.named B.method).1 (by rw [htb, hh]; rfl)) (o := .inr x) (hf := h1) ?_ (Nat.le_refl _) (Nat.le_refl _) k _ _ hG)
  refine ⟨hck2, fun h9 e9 => ?_⟩
  subst e9
  intro a' H locs cells slots hq
  obtain ⟨kR, kS, k3, k4, k5, k6, k7, k8⟩ := hq
  have hn9 : h9.1 = h.1 := hn
  have ha : a' = a := k4 hn9
  subst ha
  obtain ⟨z1, z2, z3⟩ := id hle
  have y2 : h.2.1 ≤ h9.2.1 + 1 := z2
  have y3 : h.2.2.1 ≤ h9.2.2.1 + 6 := z3
  refine ⟨_, _, _, _, _, rfl, ht, fun t hal hz ho => ⟨rfl, ?_, ?_⟩, kS.2.2, by show cells + 1 ≤ h9.2.1 + 1 - h.2.1; omega, by show slots + 6 ≤ h9.2.2.1 + 6 - h.2.2.1; omega, Nat.le_refl _, Nat.le_refl _⟩
  · exact ⟨fun q q0 q1 => (kR.1 q q0 q1).kept (ho _ (kR.1 q q0 q1).lt), kR.2⟩
  · refine ⟨Nat.le_trans kS.1 hz, fun q g1 g2 => ?_⟩
    rw [ho q (Nat.lt_of_lt_of_le g1 kS.1)]
    exact kS.2.1 q g1 (fun z => g2 (by
      rcases z with ⟨q9, w1, w2, w3⟩ | z
      · exact Or.inl ⟨q9, w1, by show q9 < h9.1; rw [hn9]; exact w2, w3⟩
      · exact Or.inr z))
theorem ev_ok (ht : jTab tab code) : ∀ d, jEok tab d (Ev tab code d)
  | 0 => fun _ _ _ => ⟨fun _ _ h => h.elim, fun _ _ h => h.elim⟩
  | d + 1 => fun μ as h => ⟨fun _ _ ⟨hck, _, _, hG⟩ => con_of (ev_ok ht d) (ht μ).1 (ht μ).2 hck hG, fun x _ ⟨hck, hn, _, hG⟩ => conX_of (ev_ok ht d) (ht μ).1 (ht μ).2 hck (hn x rfl) hG⟩
end JCON
end
section
/-! a shift, an int constant, and the law's reader of the script -/
section JP26
variable {tab : Nat → JM5} {cc : ByteArray} {own : String} {nm : String × List (Nat × Nat × Nat × Nat)} {nL : Nat} {scr : Option (Nat × (Nat → Int32))} {pc : Nat}
def s_ishr : List Value → Option (List Value) := fun st => match st with
  | .int y :: .int x :: r => some (.int (x >>> (y &&& 31)) :: r)
  | _ => none
theorem k_ishr (hd : decode cc pc = .ok (.ishr, 1)) : JOk tab cc own nm nL scr pc (a_stk 1 s_ishr) := k_stk (by
  intro p l e R s m args below meth c H locs cells slots Q ls a st st' hx hb hs k
  unfold s_ishr at hs
  split at hs
  · cases hs
    exact lv_ishr hx hb hd k
  · cases hs)
def a_ldci (v : Int32) : JA := fun f h => some (.inl ((f.1 + 2, f.2.1, .int v :: f.2.2), h))
theorem k_ldci {i : Nat} {v : Int32} (hd : decode cc pc = .ok (.ldc i, 2)) (hw : Cond.constant own i v ∈ GW) : JOk tab cc own nm nL scr pc (a_ldci v) := k_loc (fun f h y e => by unfold a_ldci at e; cases e) (by
  intro l st h f' h' e
  unfold a_ldci at e
  cases e
  refine ⟨rfl, fun dd p l0 e R s m args below meth c D g A n n0 a0 c0 s0 cE sE Q hdd C a ls H locs cells slots hl hq h1 h2 k => ?_⟩
  exact lv_ldc C.1 C.2.1 C.2.2.1 (C.2.2.2.2.1 _ hw) hd (k ls hl))
def mL_cell : JM5 := (yL_cell, cL_cell, 2, some .int, none)
/-- what the reader answers -/
def cellv (L : Nat) (xs : Nat → Int32) (i : Int32) : Int32 := if i < Int32.ofNat L then xs i.toNatClampNeg else 1116352408 * (i + 617)
def jXs (a : Nat → Nat) (h : JH) (sz L : Nat) (xs : Nat → Int32) (U : State) : Prop := va_X (a 0) L xs U U.heap ∧ a 0 < U.heap.size ∧ ¬ jA a h.1 sz (a 0)
theorem cell_met {L : Nat} {xs : Nat → Int32} (hL : L < 2 ^ 31) (l : Launch) (D : va_G) (g : Nat → ClassId) (a : Nat → Nat) (h : JH) (sz : Nat) (i : Int32) (hi : ¬ i < 0) (w1 : Cond.constant RL 7 1116352408 ∈ GW) :
    Met l yL_cell (jws mL_cell) { frames := 0, cells := h.2.1 - h.2.1, slots := h.2.2.1 - h.2.2.1, locals := 0 } (va_Pc [.ref (a 0), .int i] (fun U => jPre D g a h sz U ∧ jXs a h sz L xs U)) (fun _ st oc t => jPost D g a h h sz (some (.int (cellv L xs i))) st oc t) (h.2.1 - h.2.1) (h.2.2.1 - h.2.2.1) (jA a h.1 sz) := by
  refine Met.ofW (cc := cL_cell) (maxL := 2) (ret := some .int) (ws' := GW) (by decide +kernel) rfl ?_
  intro p e s m args below meth c s₁ B hml hv
  obtain ⟨rfl, hp, hX, hsz, hA⟩ := hv
  obtain ⟨rfl⟩ : s.heap.size = sz := hp.1
  have hall := atoms_spec (ws := jws mL_cell) B.pre
  have hts : ∀ w ∈ GW, w.before [Value.ref (a 0), Value.int i].toArray s = true := fun w hw => hall w (List.mem_cons_of_mem _ hw)
  have hx := B.exec
  have hb := B.bytes
  have hown := findClass_of_methodNamed B.named
  rw [lg_entry_eq]
  have hl0 := lv_entry ([.ref (a 0), .int i]) (n := 2) (Nat.le_of_ble_eq_true rfl)
  refine (fun key => key _ hl0) (fun ls hl => ?_ : ∀ ls : Array Slot, lv_has ls 2 (lv_args 0 [.ref (a 0), .int i]) → W p l e _ s m _ below meth c s.heap [] 0 0 _ (F0 m 0 ls []))
  have hend : ∀ (R : Room) (v : Int32), v = cellv L xs i → W p l e R s m [Value.ref (a 0), Value.int i].toArray below meth c s.heap [] 0 0 (MQ below (fun _ st oc t => jPost D g a h h s.heap.size (some (.int (cellv L xs i))) st oc t) [Value.ref (a 0), Value.int i].toArray s (h.2.1 - h.2.1) (h.2.2.1 - h.2.2.1) (jA a h.1 s.heap.size)) (F0 m 20 ls [.int v]) := fun R v hv => by
    subst hv
    exact j_end (M := mL_cell) (r := some (.int (cellv L xs i))) (nL := 2) (own := "") (nm := ("", [])) (dd := 0) B.exec B.bytes B.returns B.notSynchronized trivial jLe.rf rfl rfl a ls s.heap [] 0 0 20 .ireturn ⟨hp.2.2.1, va_S.rf, fun _ _ => rfl, fun _ => rfl, fun q h0 h1 => absurd h1 (Nat.not_lt.mpr h0), Nat.le_refl _, rfl, rfl⟩ (Nat.le_refl _) (Nat.le_refl _) (show decode cL_cell 20 = .ok (.ireturn, 1) by decide +kernel) (Or.inl ⟨rfl, _, rfl⟩)
  refine lv_iload_n hx hb (show decode cL_cell 0 = .ok (.iload_n 1, 1) by decide +kernel) rfl (lv_at hl 1 rfl) ?_
  refine lv_aload_n hx hb (show decode cL_cell 1 = .ok (.aload_n 0, 1) by decide +kernel) rfl (lv_at hl 0 rfl) ?_
  refine va_slen hx hb hX hsz hA va_S.rf (show decode cL_cell 2 = .ok (.arraylength, 1) by decide +kernel) ?_
  refine lv_icmp_ge hx hb (show decode cL_cell 3 = .ok (.if_icmp .ge 9, 3) by decide +kernel) (tgt := 12) (by decide) (fun hc => ?_) (fun hc => ?_)
  · refine lv_ldc hx hb hown (hts _ w1) (show decode cL_cell 12 = .ok (.ldc 7, 2) by decide +kernel) ?_
    refine lv_iload_n hx hb (show decode cL_cell 14 = .ok (.iload_n 1, 1) by decide +kernel) rfl (lv_at hl 1 rfl) ?_
    refine lv_sipush hx hb (show decode cL_cell 15 = .ok (.sipush 617, 3) by decide +kernel) (v := 617) (by decide +kernel) ?_
    refine lv_iadd hx hb (show decode cL_cell 18 = .ok (.iadd, 1) by decide +kernel) ?_
    refine lv_imul hx hb (show decode cL_cell 19 = .ok (.imul, 1) by decide +kernel) ?_
    refine hend _ _ ?_
    unfold cellv
    rw [if_neg (fun q => Int32.not_le.mpr q hc)]
  · refine lv_aload_n hx hb (show decode cL_cell 6 = .ok (.aload_n 0, 1) by decide +kernel) rfl (lv_at hl 0 rfl) ?_
    refine lv_iload_n hx hb (show decode cL_cell 7 = .ok (.iload_n 1, 1) by decide +kernel) rfl (lv_at hl 1 rfl) ?_
    have hlt : i < Int32.ofNat L := Int32.not_le.mp hc
    refine va_sld hx hb hX hsz hA va_S.rf (i := i) (fun q => ?_) (show decode cL_cell 8 = .ok (.iaload, 1) by decide +kernel) ?_
    · rcases q with q | q
      · exact hi q
      · have e1 := Int32.lt_iff_toInt_lt.mp hlt
        have e2 : (Int32.ofNat L).toInt = (L : Int) := nI_toInt hL
        have e3 : ¬ i.toInt < 0 := fun z => hi (Int32.lt_iff_toInt_lt.mpr (by simpa using z))
        have e4 : i.toNatClampNeg = i.toInt.toNat := rfl
        omega
    · refine lv_goto hx hb (show decode cL_cell 9 = .ok (.goto 11, 3) by decide +kernel) (tgt := 20) (by decide) ?_
      refine hend _ _ ?_
      unfold cellv
      rw [if_pos hlt]
def a_cell (L : Nat) (xs : Nat → Int32) : JA := fun f h => match f.2.2 with
  | .int i :: .ref q :: r => if q = 0 ∧ ¬ i < 0 ∧ jcat r ≤ 8 ∧ L < 2 ^ 31 then some (.inl ((f.1 + 3, f.2.1, .int (cellv L xs i) :: r), h)) else none
  | _ => none
theorem k_cell {idx L : Nat} {xs : Nat → Int32} (hd : decode cc pc = .ok (.invokestatic idx, 3)) (w0 : Cond.code yL_cell cL_cell 2 (some .int) ∈ GW) (w1 : Cond.methodLink own idx yL_cell ∈ GW) (w2 : Cond.static yL_cell ∈ GW) (w3 : Cond.initialized yL_cell.cls ∈ GW) (w4 : Cond.constant RL 7 1116352408 ∈ GW) : JOk tab cc own nm nL (some (L, xs)) pc (a_cell L xs) := by
  refine ⟨fun l st h f' h' e => ?_, fun dd X hdd C l st h => ?_⟩
  · unfold a_cell at e
    split at e
    · split at e
      · cases e
        exact jLe.rf
      · cases e
    · cases e
  · unfold a_cell
    split
    · rename_i i q r hst
      have hst' : st = .int i :: .ref q :: r := hst
      split
      · rename_i hcc
        obtain ⟨rfl, hi, hr, hL⟩ := hcc
        obtain ⟨⟨p, ln, e, R, s⟩, ⟨m, args, below, meth, c⟩, ⟨D, g⟩, ⟨A, n, n0, a0⟩, ⟨c0, s0, cE, sE⟩, Q⟩ := X
        intro b1 b2 kk a ls H locs cells slots hl hq g1 g2
        have hw : jws mL_cell = Cond.code yL_cell cL_cell 2 (some .int) :: GW := rfl
        obtain ⟨hx, hb, hown, ⟨hml, hnL⟩, hts, hK, hZ, ⟨r1, r2, r3, r4⟩, hAA, hscr, hfl, -, -, -⟩ := id C
        obtain ⟨x1, x2, x3, x4⟩ := hscr L xs rfl
        have e0 : a 0 = a0 0 := hq.2.2.1 0 x4
        rw [← e0] at x1 x2 x3
        obtain ⟨-, ⟨v1, v2, v3⟩, -, -, -, -, q1, q2⟩ := id hq
        have hsub := hq.sub C
        show W p ln e R s m args below meth c H locs cells slots Q (F0 m pc ls (st.map (tv a)))
        have hstk : st.map (tv a) = ([Value.ref (a 0), .int i] : List Value).reverse ++ r.map (tv a) := by rw [hst']; rfl
        rw [hstk]
        refine j_after (h1 := h) (st' := r) (r := some (.int (cellv L xs i))) C hl hq ?_ jLe.rf (Or.inl rfl) b1 b2 kk
        exact va_runS (As := [.ref (a 0), .int i]) (rest := r.map (tv a)) ⟨hx, hb, hml, hown, hts⟩ (cell_met hL ln D g a h H.size i hi w4) (va_cwS 2 hts (gw_goodIn (fun w hw2 => by
          unfold va_wsS at hw2
          rw [hw] at hw2
          simp only [List.cons_append, List.nil_append, List.mem_cons] at hw2
          rcases hw2 with rfl | rfl | rfl | rfl | hw2
          · exact w1
          · exact w2
          · exact w3
          · exact w0
          · exact hw2)) hw rfl rfl ⟨by decide +kernel, by decide +kernel, by decide +kernel⟩ ⟨by show 0 + 1 ≤ _; omega, by show 8 + (2 + 11) + 0 ≤ _; omega⟩)
          ⟨fun v U fr mk qq => ⟨qq.1, (jPre.blind D g a h H.size [.ref (a 0), .int i] v U fr mk ⟨qq.1, qq.2.1⟩).2, va_X.moved (u := U) (U := U.calling fr mk v) (Vm.Alike.refl U.vm) qq.2.2.1, qq.2.2.2⟩,
           fun U hU hW => ⟨rfl, hq.pre C hU hW, va_X.moved hW.alike (by rw [hU]; exact x1.kept (v2 _ x2 x3)), by rw [hU]; exact Nat.lt_of_lt_of_le x2 v1, fun z => x3 (hsub _ z)⟩⟩ rfl rfl hl.1 rfl (lv_room (by rw [tv_catsum]; exact hr)) hd ⟨by show cells + _ ≤ _; omega, by show slots + _ ≤ _; omega⟩
      · trivial
    · trivial
end JP26
end
section
/-! code tables, by program out of the class files -/
def mX0_init : JM5 := (yX0_init, cX0_init, 1, none, none)
def mX0_tell : JM5 := (yX0_tell, cX0_tell, 5, none, none)
def mX0_copyFrom : JM5 := (yX0_copyFrom, cX0_copyFrom, 2, none, none)
def mX0_isOnStandOrBay : JM5 := (yX0_isOnStandOrBay, cX0_isOnStandOrBay, 1, some .boolean, none)
def mX0_takeBuses : JM5 := (yX0_takeBuses, cX0_takeBuses, 1, none, none)
def mX0_answer : JM5 := (yX0_answer, cX0_answer, 2, some .int, none)
def mX1_init : JM5 := (yX1_init, cX1_init, 2, none, none)
def mX1_build : JM5 := (yX1_build, cX1_build, 4, none, none)
def mX1_restart : JM5 := (yX1_restart, cX1_restart, 2, none, none)
def mX1_copyFrom : JM5 := (yX1_copyFrom, cX1_copyFrom, 3, none, none)
def mX1_hasStand : JM5 := (yX1_hasStand, cX1_hasStand, 2, some .boolean, none)
def mX1_hasTug : JM5 := (yX1_hasTug, cX1_hasTug, 2, some .boolean, none)
def mX1_hasAircraft : JM5 := (yX1_hasAircraft, cX1_hasAircraft, 2, some .boolean, none)
def mX1_add : JM5 := (yX1_add, cX1_add, 5, none, none)
def mX1_passSome : JM5 := (yX1_passSome, cX1_passSome, 5, some .int, none)
def mX1_quietMinutes : JM5 := (yX1_quietMinutes, cX1_quietMinutes, 4, some .int, none)
def mX1_workTugs : JM5 := (yX1_workTugs, cX1_workTugs, 3, none, none)
def mX1_finish : JM5 := (yX1_finish, cX1_finish, 3, none, none)
def mX1_receive : JM5 := (yX1_receive, cX1_receive, 4, none, none)
def mX1_pushBack : JM5 := (yX1_pushBack, cX1_pushBack, 4, none, none)
def mX1_turn : JM5 := (yX1_turn, cX1_turn, 2, some .int, none)
def mX1_nextToLeave : JM5 := (yX1_nextToLeave, cX1_nextToLeave, 5, some .int, none)
def mX1_beginPush : JM5 := (yX1_beginPush, cX1_beginPush, 4, none, none)
def mX1_tow : JM5 := (yX1_tow, cX1_tow, 5, none, none)
def mX1_countMinutes : JM5 := (yX1_countMinutes, cX1_countMinutes, 4, none, none)
def mX1_freeStandFor : JM5 := (yX1_freeStandFor, cX1_freeStandFor, 4, some .int, none)
def mX1_freeTugFor : JM5 := (yX1_freeTugFor, cX1_freeTugFor, 4, some .int, none)
def mX1_reason : JM5 := (yX1_reason, cX1_reason, 3, some .int, none)
def mX1_isCurfew : JM5 := (yX1_isCurfew, cX1_isCurfew, 2, some .boolean, none)
def mX1_isPushedFrom : JM5 := (yX1_isPushedFrom, cX1_isPushedFrom, 2, some .boolean, none)
def mX1_passUntilAllGone : JM5 := (yX1_passUntilAllGone, cX1_passUntilAllGone, 3, some .int, none)
def mX1_areAllGone : JM5 := (yX1_areAllGone, cX1_areAllGone, 1, some .boolean, none)
def mX1_countAt : JM5 := (yX1_countAt, cX1_countAt, 4, some .int, none)
def mX1_sumOfDelays : JM5 := (yX1_sumOfDelays, cX1_sumOfDelays, 3, some .int, none)
def mX1_greatestDelay : JM5 := (yX1_greatestDelay, cX1_greatestDelay, 3, some .int, none)
def mX1_sumOfBuses : JM5 := (yX1_sumOfBuses, cX1_sumOfBuses, 3, some .int, none)
def mX1_standAnswer : JM5 := (yX1_standAnswer, cX1_standAnswer, 3, some .int, none)
def mX1_answer : JM5 := (yX1_answer, cX1_answer, 2, some .int, none)
def mX2_init : JM5 := (yX2_init, cX2_init, 1, none, none)
def mX2_put : JM5 := (yX2_put, cX2_put, 5, none, none)
def mX2_kept : JM5 := (yX2_kept, cX2_kept, 1, some .int, none)
def mX2_copyFrom : JM5 := (yX2_copyFrom, cX2_copyFrom, 2, none, none)
def mX3_init : JM5 := (yX3_init, cX3_init, 1, none, none)
def mX3_restart : JM5 := (yX3_restart, cX3_restart, 1, none, none)
def mX3_copyFrom : JM5 := (yX3_copyFrom, cX3_copyFrom, 2, none, none)
def mX4_init : JM5 := (yX4_init, cX4_init, 1, none, none)
def mX5_init : JM5 := (yX5_init, cX5_init, 1, none, none)
def mX5_restart : JM5 := (yX5_restart, cX5_restart, 1, none, none)
def mX5_copyFrom : JM5 := (yX5_copyFrom, cX5_copyFrom, 2, none, none)
def mX5_take : JM5 := (yX5_take, cX5_take, 3, none, none)
def mX5_answer : JM5 := (yX5_answer, cX5_answer, 2, some .int, none)
def mX6_init : JM5 := (yX6_init, cX6_init, 2, none, none)
def mX6_begin : JM5 := (yX6_begin, cX6_begin, 4, some .int, none)
def mX6_setSpan : JM5 := (yX6_setSpan, cX6_setSpan, 4, some .int, none)
def mX6_setStrength : JM5 := (yX6_setStrength, cX6_setStrength, 4, some .int, none)
def mX6_setCurfew : JM5 := (yX6_setCurfew, cX6_setCurfew, 3, some .int, none)
def mX6_expect : JM5 := (yX6_expect, cX6_expect, 6, some .int, none)
def mX6_setLeaves : JM5 := (yX6_setLeaves, cX6_setLeaves, 5, some .int, none)
def mX6_pass : JM5 := (yX6_pass, cX6_pass, 5, some .int, none)
def mX6_aircraft : JM5 := (yX6_aircraft, cX6_aircraft, 3, some .int, none)
def mX6_stand : JM5 := (yX6_stand, cX6_stand, 3, some .int, none)
def mX6_tug : JM5 := (yX6_tug, cX6_tug, 3, some .int, none)
def mX6_value : JM5 := (yX6_value, cX6_value, 2, some .int, none)
def mX6_why : JM5 := (yX6_why, cX6_why, 2, some .int, none)
def mX6_delayOf : JM5 := (yX6_delayOf, cX6_delayOf, 5, some .int, none)
def mX6_minutesToAll : JM5 := (yX6_minutesToAll, cX6_minutesToAll, 1, some .int, none)
def mX6_used : JM5 := (yX6_used, cX6_used, 3, some .double, none)
def mX6_undo : JM5 := (yX6_undo, cX6_undo, 1, some .int, none)
def mX6_isOutside : JM5 := (yX6_isOutside, cX6_isOutside, 3, some .boolean, none)
def mX6_isKind : JM5 := (yX6_isKind, cX6_isKind, 1, some .boolean, none)
def mX6_save : JM5 := (yX6_save, cX6_save, 1, none, none)
def mX6_dropOldest : JM5 := (yX6_dropOldest, cX6_dropOldest, 3, none, none)
def mL_up : JM5 := (yL_up, cL_up, 2, some .int, none)
def mL_fields : JM5 := (yL_fields, cL_fields, 7, some .boolean, none)
def mL_isStep : JM5 := (yL_isStep, cL_isStep, 7, some .boolean, none)
def mL_turned : JM5 := (yL_turned, cL_turned, 2, some .int, none)
def mL_areAlike : JM5 := (yL_areAlike, cL_areAlike, 6, some .boolean, none)
def mL_isSound : JM5 := (yL_isSound, cL_isSound, 8, some .boolean, none)
def jcX0_init : List (Nat × JA) := [(0, a_ald 1 0), (1, a_oini), (4, a_ret 4)]
def jcX0_tell : List (Nat × JA) := [(0, a_ald 1 0), (1, a_ild 1 1), (2, a_stk 2 (s_push (.int 10))), (4, a_stk 1 s_idiv), (5, a_puti 0 0), (8, a_ald 1 0), (9, a_ild 1 1), (10, a_stk 2 (s_push (.int 10))), (12, a_stk 1 s_irem), (13, a_puti 0 1), (16, a_ald 1 0), (17, a_ild 1 2), (18, a_puti 0 2), (21, a_ald 1 0), (22, a_ild 1 3), (23, a_puti 0 3), (26, a_ald 1 0), (27, a_ild 2 4), (29, a_puti 0 4), (32, a_ald 1 0), (33, a_stk 1 (s_push (.int 0))), (34, a_puti 0 5), (37, a_ald 1 0), (38, a_stk 1 (s_push (.int (-1)))), (39, a_puti 0 6), (42, a_ald 1 0), (43, a_stk 1 (s_push (.int (-1)))), (44, a_puti 0 7), (47, a_ald 1 0), (48, a_stk 1 (s_push (.int 0))), (49, a_puti 0 8), (52, a_ald 1 0), (53, a_stk 1 (s_push (.int 0))), (54, a_puti 0 9), (57, a_ret 4)]
def jcX0_copyFrom : List (Nat × JA) := [(0, a_ald 1 0), (1, a_ald 1 1), (2, a_getf 0 0), (5, a_puti 0 0), (8, a_ald 1 0), (9, a_ald 1 1), (10, a_getf 0 1), (13, a_puti 0 1), (16, a_ald 1 0), (17, a_ald 1 1), (18, a_getf 0 2), (21, a_puti 0 2), (24, a_ald 1 0), (25, a_ald 1 1), (26, a_getf 0 3), (29, a_puti 0 3), (32, a_ald 1 0), (33, a_ald 1 1), (34, a_getf 0 4), (37, a_puti 0 4), (40, a_ald 1 0), (41, a_ald 1 1), (42, a_getf 0 5), (45, a_puti 0 5), (48, a_ald 1 0), (49, a_ald 1 1), (50, a_getf 0 6), (53, a_puti 0 6), (56, a_ald 1 0), (57, a_ald 1 1), (58, a_getf 0 7), (61, a_puti 0 7), (64, a_ald 1 0), (65, a_ald 1 1), (66, a_getf 0 8), (69, a_puti 0 8), (72, a_ald 1 0), (73, a_ald 1 1), (74, a_getf 0 9), (77, a_puti 0 9), (80, a_ret 4)]
def jcX0_isOnStandOrBay : List (Nat × JA) := [(0, a_ald 1 0), (1, a_getf 0 5), (4, a_stk 1 (s_push (.int 1))), (5, a_br 16 b_icmp_eq), (8, a_ald 1 0), (9, a_getf 0 5), (12, a_stk 1 (s_push (.int 2))), (13, a_br 20 b_icmp_ne), (16, a_stk 1 (s_push (.int 1))), (17, a_goto 21), (20, a_stk 1 (s_push (.int 0))), (21, a_ret 0)]
def jcX0_takeBuses : List (Nat × JA) := [(0, a_ald 1 0), (1, a_stk 1 s_dup), (2, a_getf 0 9), (5, a_ald 1 0), (6, a_getf 0 4), (9, a_stk 2 (s_push (.int 50))), (11, a_stk 1 s_iadd), (12, a_stk 1 (s_push (.int 1))), (13, a_stk 1 s_isub), (14, a_stk 2 (s_push (.int 50))), (16, a_stk 1 s_idiv), (17, a_stk 1 s_iadd), (18, a_puti 0 9), (21, a_ret 4)]
def jcX0_answer : List (Nat × JA) := [(0, a_ild 1 1), (1, a_sw [52, 57, 62, 67, 72, 77, 82, 87, 92] 97), (52, a_ald 1 0), (53, a_getf 0 0), (56, a_ret 0), (57, a_ald 1 0), (58, a_getf 0 1), (61, a_ret 0), (62, a_ald 1 0), (63, a_getf 0 2), (66, a_ret 0), (67, a_ald 1 0), (68, a_getf 0 3), (71, a_ret 0), (72, a_ald 1 0), (73, a_getf 0 4), (76, a_ret 0), (77, a_ald 1 0), (78, a_getf 0 5), (81, a_ret 0), (82, a_ald 1 0), (83, a_getf 0 6), (86, a_ret 0), (87, a_ald 1 0), (88, a_getf 0 7), (91, a_ret 0), (92, a_ald 1 0), (93, a_getf 0 8), (96, a_ret 0), (97, a_ald 1 0), (98, a_getf 0 9), (101, a_ret 0)]
def jcX1_init_p1 : List (Nat × JA) := [(0, a_ald 1 0), (1, a_oini), (4, a_ald 1 0), (5, a_stk 2 (s_push (.int 6))), (7, a_newq 3), (10, a_putr 1 0), (13, a_ald 1 0), (14, a_stk 1 (s_push (.int 3))), (15, a_newq 4), (18, a_putr 1 1), (21, a_ald 1 0), (22, a_stk 2 (s_push (.int 12))), (24, a_newq 5), (27, a_putr 1 2), (30, a_ald 1 0), (31, a_new 2 4 [.null, .null, .null, .int 0]), (34, a_stk 1 s_dup), (35, a_ini 39 0), (38, a_putr 1 3), (41, a_stk 1 (s_push (.int 0))), (42, a_ist 1 1), (43, a_ild 1 1), (44, a_stk 2 (s_push (.int 6))), (46, a_br 68 b_icmp_ge), (49, a_ald 1 0), (50, a_getf 1 0), (53, a_ild 1 1), (54, a_new 3 3 [.int 0, .int 0, .int 0]), (57, a_stk 1 s_dup), (58, a_ini 44 0), (61, a_aast 3 3), (62, a_iinc 1 1), (65, a_goto 43), (68, a_stk 1 (s_push (.int 0))), (69, a_ist 1 1), (70, a_ild 1 1), (71, a_stk 1 (s_push (.int 3))), (72, a_br 94 b_icmp_ge), (75, a_ald 1 0), (76, a_getf 1 1)]
def jcX1_init_p2 : List (Nat × JA) := [(79, a_ild 1 1), (80, a_new 5 5 [.int 0, .int 0, .int 0, .int 0, .int 0]), (83, a_stk 1 s_dup), (84, a_ini 56 0), (87, a_aast 4 5), (88, a_iinc 1 1), (91, a_goto 70), (94, a_stk 1 (s_push (.int 0))), (95, a_ist 1 1), (96, a_ild 1 1), (97, a_stk 2 (s_push (.int 12))), (99, a_br 121 b_icmp_ge), (102, a_ald 1 0), (103, a_getf 1 2), (106, a_ild 1 1), (107, a_new 0 10 [.int 0, .int 0, .int 0, .int 0, .int 0, .int 0, .int 0, .int 0, .int 0, .int 0]), (110, a_stk 1 s_dup), (111, a_ini 0 0), (114, a_aast 5 0), (115, a_iinc 1 1), (118, a_goto 96), (121, a_ald 1 0), (122, a_stk 1 (s_push (.int 3))), (123, a_stk 1 (s_push (.int 1))), (124, a_inv 7 2 1 []), (127, a_ret 4)]
def jcX1_init : List (Nat × JA) := jcX1_init_p1 ++ (jcX1_init_p2)
def jcX1_build : List (Nat × JA) := [(0, a_ald 1 0), (1, a_ild 1 1), (2, a_puti 1 4), (5, a_ald 1 0), (6, a_ild 1 2), (7, a_puti 1 5), (10, a_stk 1 (s_push (.int 0))), (11, a_ist 1 3), (12, a_ild 1 3), (13, a_ald 1 0), (14, a_getf 1 4), (17, a_br 36 b_icmp_ge), (20, a_ald 1 0), (21, a_getf 1 0), (24, a_ild 1 3), (25, a_aald 3), (26, a_stk 1 (s_push (.int 2))), (27, a_puti 3 0), (30, a_iinc 3 1), (33, a_goto 12), (36, a_stk 1 (s_push (.int 0))), (37, a_ist 1 3), (38, a_ild 1 3), (39, a_ald 1 0), (40, a_getf 1 5), (43, a_br 62 b_icmp_ge), (46, a_ald 1 0), (47, a_getf 1 1), (50, a_ild 1 3), (51, a_aald 4), (52, a_stk 1 (s_push (.int 3))), (53, a_puti 5 0), (56, a_iinc 3 1), (59, a_goto 38), (62, a_ald 1 0), (63, a_inv 8 0 1 []), (66, a_ret 4)]
def jcX1_restart : List (Nat × JA) := [(0, a_stk 1 (s_push (.int 0))), (1, a_ist 1 1), (2, a_ild 1 1), (3, a_ald 1 0), (4, a_getf 1 4), (7, a_br 25 b_icmp_ge), (10, a_ald 1 0), (11, a_getf 1 0), (14, a_ild 1 1), (15, a_aald 3), (16, a_inv 45 0 3 []), (19, a_iinc 1 1), (22, a_goto 2), (25, a_stk 1 (s_push (.int 0))), (26, a_ist 1 1), (27, a_ild 1 1), (28, a_ald 1 0), (29, a_getf 1 5), (32, a_br 50 b_icmp_ge), (35, a_ald 1 0), (36, a_getf 1 1), (39, a_ild 1 1), (40, a_aald 4), (41, a_inv 57 0 5 []), (44, a_iinc 1 1), (47, a_goto 27), (50, a_ald 1 0), (51, a_stk 1 (s_push (.int 0))), (52, a_puti 1 6), (55, a_ald 1 0), (56, a_stk 1 (s_push (.int 0))), (57, a_puti 1 7), (60, a_ald 1 0), (61, a_getf 1 3), (64, a_stk 1 (s_push (.int 0))), (65, a_puti 2 3), (68, a_ret 4)]
def jcX1_copyFrom_p1 : List (Nat × JA) := [(0, a_ald 1 0), (1, a_ald 1 1), (2, a_getf 1 4), (5, a_puti 1 4), (8, a_ald 1 0), (9, a_ald 1 1), (10, a_getf 1 5), (13, a_puti 1 5), (16, a_ald 1 0), (17, a_ald 1 1), (18, a_getf 1 6), (21, a_puti 1 6), (24, a_ald 1 0), (25, a_ald 1 1), (26, a_getf 1 7), (29, a_puti 1 7), (32, a_ald 1 0), (33, a_ald 1 1), (34, a_getf 1 8), (37, a_puti 1 8), (40, a_ald 1 0), (41, a_ald 1 1), (42, a_getf 1 9), (45, a_puti 1 9), (48, a_stk 1 (s_push (.int 0))), (49, a_ist 1 2), (50, a_ild 1 2), (51, a_ald 1 0), (52, a_getf 1 4), (55, a_br 79 b_icmp_ge), (58, a_ald 1 0), (59, a_getf 1 0), (62, a_ild 1 2), (63, a_aald 3), (64, a_ald 1 1), (65, a_getf 1 0), (68, a_ild 1 2), (69, a_aald 3), (70, a_inv 46 1 3 []), (73, a_iinc 2 1)]
def jcX1_copyFrom_p2 : List (Nat × JA) := [(76, a_goto 50), (79, a_stk 1 (s_push (.int 0))), (80, a_ist 1 2), (81, a_ild 1 2), (82, a_ald 1 0), (83, a_getf 1 5), (86, a_br 110 b_icmp_ge), (89, a_ald 1 0), (90, a_getf 1 1), (93, a_ild 1 2), (94, a_aald 4), (95, a_ald 1 1), (96, a_getf 1 1), (99, a_ild 1 2), (100, a_aald 4), (101, a_inv 58 1 5 []), (104, a_iinc 2 1), (107, a_goto 81), (110, a_stk 1 (s_push (.int 0))), (111, a_ist 1 2), (112, a_ild 1 2), (113, a_ald 1 0), (114, a_getf 1 6), (117, a_br 141 b_icmp_ge), (120, a_ald 1 0), (121, a_getf 1 2), (124, a_ild 1 2), (125, a_aald 5), (126, a_ald 1 1), (127, a_getf 1 2), (130, a_ild 1 2), (131, a_aald 5), (132, a_inv 2 1 0 []), (135, a_iinc 2 1), (138, a_goto 112), (141, a_ald 1 0), (142, a_getf 1 3), (145, a_ald 1 1), (146, a_getf 1 3), (149, a_inv 43 1 2 [])]
def jcX1_copyFrom_p3 : List (Nat × JA) := [(152, a_ret 4)]
def jcX1_copyFrom : List (Nat × JA) := jcX1_copyFrom_p1 ++ (jcX1_copyFrom_p2 ++ (jcX1_copyFrom_p3))
def jcX1_hasStand : List (Nat × JA) := [(0, a_ild 1 1), (1, a_br 16 b_if_lt), (4, a_ild 1 1), (5, a_ald 1 0), (6, a_getf 1 4), (9, a_br 16 b_icmp_ge), (12, a_stk 1 (s_push (.int 1))), (13, a_goto 17), (16, a_stk 1 (s_push (.int 0))), (17, a_ret 0)]
def jcX1_hasTug : List (Nat × JA) := [(0, a_ild 1 1), (1, a_br 16 b_if_lt), (4, a_ild 1 1), (5, a_ald 1 0), (6, a_getf 1 5), (9, a_br 16 b_icmp_ge), (12, a_stk 1 (s_push (.int 1))), (13, a_goto 17), (16, a_stk 1 (s_push (.int 0))), (17, a_ret 0)]
def jcX1_hasAircraft : List (Nat × JA) := [(0, a_ild 1 1), (1, a_br 16 b_if_lt), (4, a_ild 1 1), (5, a_ald 1 0), (6, a_getf 1 6), (9, a_br 16 b_icmp_ge), (12, a_stk 1 (s_push (.int 1))), (13, a_goto 17), (16, a_stk 1 (s_push (.int 0))), (17, a_ret 0)]
def jcX1_add : List (Nat × JA) := [(0, a_ald 1 0), (1, a_getf 1 6), (4, a_stk 2 (s_push (.int 12))), (6, a_br 36 b_icmp_ge), (9, a_ald 1 0), (10, a_getf 1 2), (13, a_ald 1 0), (14, a_getf 1 6), (17, a_aald 5), (18, a_ild 1 1), (19, a_ild 1 2), (20, a_ild 1 3), (21, a_ild 2 4), (23, a_inv 1 4 0 []), (26, a_ald 1 0), (27, a_stk 1 s_dup), (28, a_getf 1 6), (31, a_stk 1 (s_push (.int 1))), (32, a_stk 1 s_iadd), (33, a_puti 1 6), (36, a_ret 4)]
def jcX1_passSome_p1 : List (Nat × JA) := [(0, a_ald 1 0), (1, a_getf 1 3), (4, a_getf 2 3), (7, a_ist 1 2), (8, a_ald 1 0), (9, a_inv 17 0 1 []), (12, a_ald 1 0), (13, a_inv 19 0 1 []), (16, a_ald 1 0), (17, a_inv 20 0 1 []), (20, a_ald 1 0), (21, a_inv 24 0 1 []), (24, a_stk 1 (s_push (.int 0))), (25, a_ist 1 3), (26, a_ald 1 0), (27, a_getf 1 3), (30, a_getf 2 3), (33, a_ild 1 2), (34, a_br 52 b_icmp_ne), (37, a_stk 1 (s_push (.int 0))), (38, a_ald 1 0), (39, a_inv 16 0 1 []), (42, a_ild 1 1), (43, a_stk 1 (s_push (.int 1))), (44, a_stk 1 s_isub), (45, a_mmin), (48, a_mmax), (51, a_ist 1 3), (52, a_stk 1 (s_push (.int 0))), (53, a_ist 2 4), (55, a_ild 2 4), (57, a_ald 1 0), (58, a_getf 1 5), (61, a_br 100 b_icmp_ge), (64, a_ald 1 0), (65, a_getf 1 1), (68, a_ild 2 4), (70, a_aald 4), (71, a_getf 5 1), (74, a_stk 1 (s_push (.int (-1))))]
def jcX1_passSome_p2 : List (Nat × JA) := [(75, a_br 94 b_icmp_eq), (78, a_ald 1 0), (79, a_getf 1 1), (82, a_ild 2 4), (84, a_aald 4), (85, a_stk 1 s_dup), (86, a_getf 5 2), (89, a_ild 1 3), (90, a_stk 1 s_isub), (91, a_puti 5 2), (94, a_iinc 4 1), (97, a_goto 55), (100, a_ald 1 0), (101, a_stk 1 (s_push (.int 1))), (102, a_ild 1 3), (103, a_stk 1 s_iadd), (104, a_inv 25 1 1 []), (107, a_ald 1 0), (108, a_stk 1 s_dup), (109, a_getf 1 7), (112, a_stk 1 (s_push (.int 1))), (113, a_ild 1 3), (114, a_stk 1 s_iadd), (115, a_stk 1 s_iadd), (116, a_puti 1 7), (119, a_stk 1 (s_push (.int 1))), (120, a_ild 1 3), (121, a_stk 1 s_iadd), (122, a_ret 0)]
def jcX1_passSome : List (Nat × JA) := jcX1_passSome_p1 ++ (jcX1_passSome_p2)
def jcX1_quietMinutes_p1 : List (Nat × JA) := [(0, a_ald 1 0), (1, a_getf 1 7), (4, a_stk 3 (s_push (.int 3000))), (7, a_stk 1 s_iadd), (8, a_ist 1 1), (9, a_stk 1 (s_push (.int 0))), (10, a_ist 1 2), (11, a_ild 1 2), (12, a_ald 1 0), (13, a_getf 1 5), (16, a_br 57 b_icmp_ge), (19, a_ald 1 0), (20, a_getf 1 1), (23, a_ild 1 2), (24, a_aald 4), (25, a_getf 5 1), (28, a_stk 1 (s_push (.int (-1)))), (29, a_br 51 b_icmp_eq), (32, a_ild 1 1), (33, a_ald 1 0), (34, a_getf 1 7), (37, a_ald 1 0), (38, a_getf 1 1), (41, a_ild 1 2), (42, a_aald 4), (43, a_getf 5 2), (46, a_stk 1 s_iadd), (47, a_mmin), (50, a_ist 1 1), (51, a_iinc 2 1), (54, a_goto 11), (57, a_stk 1 (s_push (.int 0))), (58, a_ist 1 2), (59, a_ild 1 2), (60, a_ald 1 0), (61, a_getf 1 6), (64, a_br 126 b_icmp_ge), (67, a_ald 1 0), (68, a_getf 1 2), (71, a_ild 1 2)]
def jcX1_quietMinutes_p2 : List (Nat × JA) := [(72, a_aald 5), (73, a_ast 1 3), (74, a_ald 1 3), (75, a_getf 0 5), (78, a_br 93 b_if_ne), (81, a_ild 1 1), (82, a_ald 1 3), (83, a_getf 0 2), (86, a_mmin), (89, a_ist 1 1), (90, a_goto 120), (93, a_ald 1 3), (94, a_inv 3 0 0 []), (97, a_br 120 b_if_eq), (100, a_ald 1 3), (101, a_getf 0 3), (104, a_ald 1 0), (105, a_getf 1 7), (108, a_br 120 b_icmp_le), (111, a_ild 1 1), (112, a_ald 1 3), (113, a_getf 0 3), (116, a_mmin), (119, a_ist 1 1), (120, a_iinc 2 1), (123, a_goto 59), (126, a_ald 1 0), (127, a_inv 29 0 1 []), (130, a_br 156 b_if_eq), (133, a_ild 1 1), (134, a_ald 1 0), (135, a_getf 1 7), (138, a_ald 1 0), (139, a_getf 1 7), (142, a_stk 3 (s_push (.int 1440))), (145, a_stk 1 s_irem), (146, a_stk 1 s_isub), (147, a_ald 1 0), (148, a_getf 1 9), (151, a_stk 1 s_iadd)]
def jcX1_quietMinutes_p3 : List (Nat × JA) := [(152, a_mmin), (155, a_ist 1 1), (156, a_ild 1 1), (157, a_ald 1 0), (158, a_getf 1 7), (161, a_stk 1 s_isub), (162, a_stk 1 (s_push (.int 1))), (163, a_stk 1 s_isub), (164, a_ret 0)]
def jcX1_quietMinutes : List (Nat × JA) := jcX1_quietMinutes_p1 ++ (jcX1_quietMinutes_p2 ++ (jcX1_quietMinutes_p3))
def jcX1_workTugs : List (Nat × JA) := [(0, a_stk 1 (s_push (.int 0))), (1, a_ist 1 1), (2, a_ild 1 1), (3, a_ald 1 0), (4, a_getf 1 5), (7, a_br 61 b_icmp_ge), (10, a_ald 1 0), (11, a_getf 1 1), (14, a_ild 1 1), (15, a_aald 4), (16, a_ast 1 2), (17, a_ald 1 2), (18, a_getf 5 1), (21, a_stk 1 (s_push (.int (-1)))), (22, a_br 55 b_icmp_eq), (25, a_ald 1 2), (26, a_stk 1 s_dup), (27, a_getf 5 2), (30, a_stk 1 (s_push (.int 1))), (31, a_stk 1 s_isub), (32, a_puti 5 2), (35, a_ald 1 2), (36, a_getf 5 2), (39, a_br 55 b_if_ne), (42, a_ald 1 0), (43, a_ald 1 2), (44, a_getf 5 1), (47, a_inv 18 1 1 []), (50, a_ald 1 2), (51, a_stk 1 (s_push (.int (-1)))), (52, a_puti 5 1), (55, a_iinc 1 1), (58, a_goto 2), (61, a_ret 4)]
def jcX1_finish : List (Nat × JA) := [(0, a_ald 1 0), (1, a_getf 1 2), (4, a_ild 1 1), (5, a_aald 5), (6, a_ast 1 2), (7, a_ald 1 2), (8, a_getf 0 5), (11, a_stk 1 (s_push (.int 3))), (12, a_br 35 b_icmp_ne), (15, a_ald 1 2), (16, a_stk 1 (s_push (.int 1))), (17, a_puti 0 5), (20, a_ald 1 0), (21, a_getf 1 3), (24, a_stk 2 (s_push (.int 6))), (26, a_ald 1 0), (27, a_getf 1 7), (30, a_ild 1 1), (31, a_inv 40 3 2 []), (34, a_ret 4), (35, a_ald 1 2), (36, a_stk 1 (s_push (.int 5))), (37, a_puti 0 5), (40, a_ald 1 2), (41, a_getf 0 6), (44, a_stk 1 (s_push (.int (-1)))), (45, a_br 66 b_icmp_eq), (48, a_ald 1 0), (49, a_getf 1 0), (52, a_ald 1 2), (53, a_getf 0 6), (56, a_aald 3), (57, a_stk 1 (s_push (.int (-1)))), (58, a_puti 3 1), (61, a_ald 1 2), (62, a_stk 1 (s_push (.int (-1)))), (63, a_puti 0 6), (66, a_ald 1 0), (67, a_getf 1 3), (70, a_stk 1 (s_push (.int 4))), (71, a_ald 1 0), (72, a_getf 1 7), (75, a_ild 1 1), (76, a_inv 40 3 2 []), (79, a_ret 4)]
def jcX1_receive_p1 : List (Nat × JA) := [(0, a_stk 1 (s_push (.int 0))), (1, a_ist 1 1), (2, a_ild 1 1), (3, a_ald 1 0), (4, a_getf 1 6), (7, a_br 113 b_icmp_ge), (10, a_ald 1 0), (11, a_getf 1 2), (14, a_ild 1 1), (15, a_aald 5), (16, a_ast 1 2), (17, a_ald 1 2), (18, a_getf 0 5), (21, a_br 107 b_if_ne), (24, a_ald 1 2), (25, a_getf 0 2), (28, a_ald 1 0), (29, a_getf 1 7), (32, a_br 107 b_icmp_gt), (35, a_ald 1 0), (36, a_ald 1 2), (37, a_getf 0 0), (40, a_inv 26 1 1 []), (43, a_ist 1 3), (44, a_ild 1 3), (45, a_stk 1 (s_push (.int (-1)))), (46, a_br 74 b_icmp_ne), (49, a_ald 1 2), (50, a_stk 1 (s_push (.int 2))), (51, a_puti 0 5), (54, a_ald 1 2), (55, a_inv 4 0 0 []), (58, a_ald 1 0), (59, a_getf 1 3), (62, a_stk 1 (s_push (.int 2))), (63, a_ald 1 0), (64, a_getf 1 7), (67, a_ild 1 1), (68, a_inv 40 3 2 []), (71, a_goto 107)]
def jcX1_receive_p2 : List (Nat × JA) := [(74, a_ald 1 2), (75, a_stk 1 (s_push (.int 1))), (76, a_puti 0 5), (79, a_ald 1 2), (80, a_ild 1 3), (81, a_puti 0 6), (84, a_ald 1 0), (85, a_getf 1 0), (88, a_ild 1 3), (89, a_aald 3), (90, a_ild 1 1), (91, a_puti 3 1), (94, a_ald 1 0), (95, a_getf 1 3), (98, a_stk 1 (s_push (.int 1))), (99, a_ald 1 0), (100, a_getf 1 7), (103, a_ild 1 1), (104, a_inv 40 3 2 []), (107, a_iinc 1 1), (110, a_goto 2), (113, a_ret 4)]
def jcX1_receive : List (Nat × JA) := jcX1_receive_p1 ++ (jcX1_receive_p2)
def jcX1_pushBack : List (Nat × JA) := [(0, a_stk 1 (s_push (.int (-1)))), (1, a_ist 1 1), (2, a_stk 1 (s_push (.int 0))), (3, a_ist 1 2), (4, a_ild 1 2), (5, a_ald 1 0), (6, a_getf 1 6), (9, a_br 49 b_icmp_ge), (12, a_ald 1 0), (13, a_ild 1 1), (14, a_inv 22 1 1 []), (17, a_ist 1 3), (18, a_ild 1 3), (19, a_stk 1 (s_push (.int (-1)))), (20, a_br 24 b_icmp_ne), (23, a_ret 4), (24, a_ald 1 0), (25, a_ild 1 3), (26, a_inv 28 1 1 []), (29, a_br 37 b_if_ne), (32, a_ald 1 0), (33, a_ild 1 3), (34, a_inv 23 1 1 []), (37, a_ald 1 0), (38, a_ild 1 3), (39, a_inv 21 1 1 []), (42, a_ist 1 1), (43, a_iinc 2 1), (46, a_goto 4), (49, a_ret 4)]
def jcX1_turn : List (Nat × JA) := [(0, a_ald 1 0), (1, a_getf 1 2), (4, a_ild 1 1), (5, a_aald 5), (6, a_getf 0 3), (9, a_stk 2 (s_push (.int 12))), (11, a_stk 1 s_imul), (12, a_ild 1 1), (13, a_stk 1 s_iadd), (14, a_ret 0)]
def jcX1_nextToLeave : List (Nat × JA) := [(0, a_stk 1 (s_push (.int (-1)))), (1, a_ist 1 2), (2, a_stk 1 (s_push (.int 0))), (3, a_ist 1 3), (4, a_ild 1 3), (5, a_ald 1 0), (6, a_getf 1 6), (9, a_br 75 b_icmp_ge), (12, a_ald 1 0), (13, a_getf 1 2), (16, a_ild 1 3), (17, a_aald 5), (18, a_ast 2 4), (20, a_ald 2 4), (22, a_inv 3 0 0 []), (25, a_br 69 b_if_eq), (28, a_ald 2 4), (30, a_getf 0 3), (33, a_ald 1 0), (34, a_getf 1 7), (37, a_br 69 b_icmp_gt), (40, a_ald 1 0), (41, a_ild 1 3), (42, a_inv 21 1 1 []), (45, a_ild 1 1), (46, a_br 69 b_icmp_le), (49, a_ild 1 2), (50, a_stk 1 (s_push (.int (-1)))), (51, a_br 67 b_icmp_eq), (54, a_ald 1 0), (55, a_ild 1 3), (56, a_inv 21 1 1 []), (59, a_ald 1 0), (60, a_ild 1 2), (61, a_inv 21 1 1 []), (64, a_br 69 b_icmp_ge), (67, a_ild 1 3), (68, a_ist 1 2), (69, a_iinc 3 1), (72, a_goto 4), (75, a_ild 1 2), (76, a_ret 0)]
def jcX1_beginPush : List (Nat × JA) := [(0, a_ald 1 0), (1, a_getf 1 2), (4, a_ild 1 1), (5, a_aald 5), (6, a_ast 1 2), (7, a_ald 1 0), (8, a_ald 1 2), (9, a_getf 0 1), (12, a_inv 27 1 1 []), (15, a_ist 1 3), (16, a_ild 1 3), (17, a_stk 1 (s_push (.int (-1)))), (18, a_br 22 b_icmp_ne), (21, a_ret 4), (22, a_ald 1 2), (23, a_getf 0 5), (26, a_stk 1 (s_push (.int 2))), (27, a_br 34 b_icmp_ne), (30, a_ald 1 2), (31, a_inv 4 0 0 []), (34, a_ald 1 2), (35, a_stk 1 (s_push (.int 4))), (36, a_puti 0 5), (39, a_ald 1 2), (40, a_ald 1 0), (41, a_getf 1 7), (44, a_ald 1 2), (45, a_getf 0 3), (48, a_stk 1 s_isub), (49, a_puti 0 7), (52, a_ald 1 0), (53, a_getf 1 1), (56, a_ild 1 3), (57, a_aald 4), (58, a_ild 1 1), (59, a_stk 1 (s_push (.int 5))), (60, a_inv 59 2 5 []), (63, a_ald 1 0), (64, a_getf 1 1), (67, a_ild 1 3), (68, a_aald 4), (69, a_stk 1 s_dup), (70, a_getf 5 3), (73, a_stk 1 (s_push (.int 1))), (74, a_stk 1 s_iadd), (75, a_puti 5 3), (78, a_ald 1 0), (79, a_getf 1 3), (82, a_stk 1 (s_push (.int 3))), (83, a_ald 1 0), (84, a_getf 1 7), (87, a_ild 1 1), (88, a_inv 40 3 2 []), (91, a_ret 4)]
def jcX1_tow_p1 : List (Nat × JA) := [(0, a_stk 1 (s_push (.int 0))), (1, a_ist 1 1), (2, a_ild 1 1), (3, a_ald 1 0), (4, a_getf 1 6), (7, a_br 137 b_icmp_ge), (10, a_ald 1 0), (11, a_getf 1 2), (14, a_ild 1 1), (15, a_aald 5), (16, a_ast 1 2), (17, a_ald 1 2), (18, a_getf 0 5), (21, a_stk 1 (s_push (.int 2))), (22, a_br 131 b_icmp_ne), (25, a_ald 1 2), (26, a_getf 0 3), (29, a_ald 1 0), (30, a_getf 1 7), (33, a_stk 2 (s_push (.int 30))), (35, a_stk 1 s_iadd), (36, a_br 131 b_icmp_le), (39, a_ald 1 0), (40, a_ald 1 2), (41, a_getf 0 0), (44, a_inv 26 1 1 []), (47, a_ist 1 3), (48, a_ald 1 0), (49, a_ald 1 2), (50, a_getf 0 1), (53, a_inv 27 1 1 []), (56, a_ist 2 4), (58, a_ild 1 3), (59, a_stk 1 (s_push (.int (-1)))), (60, a_br 131 b_icmp_eq), (63, a_ild 2 4), (65, a_stk 1 (s_push (.int (-1)))), (66, a_br 131 b_icmp_eq), (69, a_ald 1 2), (70, a_stk 1 (s_push (.int 3)))]
def jcX1_tow_p2 : List (Nat × JA) := [(71, a_puti 0 5), (74, a_ald 1 2), (75, a_ild 1 3), (76, a_puti 0 6), (79, a_ald 1 0), (80, a_getf 1 0), (83, a_ild 1 3), (84, a_aald 3), (85, a_ild 1 1), (86, a_puti 3 1), (89, a_ald 1 0), (90, a_getf 1 1), (93, a_ild 2 4), (95, a_aald 4), (96, a_ild 1 1), (97, a_stk 2 (s_push (.int 10))), (99, a_inv 59 2 5 []), (102, a_ald 1 0), (103, a_getf 1 1), (106, a_ild 2 4), (108, a_aald 4), (109, a_stk 1 s_dup), (110, a_getf 5 4), (113, a_stk 1 (s_push (.int 1))), (114, a_stk 1 s_iadd), (115, a_puti 5 4), (118, a_ald 1 0), (119, a_getf 1 3), (122, a_stk 1 (s_push (.int 5))), (123, a_ald 1 0), (124, a_getf 1 7), (127, a_ild 1 1), (128, a_inv 40 3 2 []), (131, a_iinc 1 1), (134, a_goto 2), (137, a_ret 4)]
def jcX1_tow : List (Nat × JA) := jcX1_tow_p1 ++ (jcX1_tow_p2)
def jcX1_countMinutes : List (Nat × JA) := [(0, a_stk 1 (s_push (.int 0))), (1, a_ist 1 2), (2, a_ild 1 2), (3, a_ald 1 0), (4, a_getf 1 4), (7, a_br 59 b_icmp_ge), (10, a_ald 1 0), (11, a_getf 1 0), (14, a_ild 1 2), (15, a_aald 3), (16, a_ast 1 3), (17, a_ald 1 3), (18, a_getf 3 1), (21, a_stk 1 (s_push (.int (-1)))), (22, a_br 53 b_icmp_eq), (25, a_ald 1 3), (26, a_stk 1 s_dup), (27, a_getf 3 2), (30, a_ild 1 1), (31, a_stk 1 s_iadd), (32, a_puti 3 2), (35, a_ald 1 0), (36, a_getf 1 2), (39, a_ald 1 3), (40, a_getf 3 1), (43, a_aald 5), (44, a_stk 1 s_dup), (45, a_getf 0 8), (48, a_ild 1 1), (49, a_stk 1 s_iadd), (50, a_puti 0 8), (53, a_iinc 2 1), (56, a_goto 2), (59, a_ret 4)]
def jcX1_freeStandFor : List (Nat × JA) := [(0, a_stk 1 (s_push (.int (-1)))), (1, a_ist 1 2), (2, a_stk 1 (s_push (.int 0))), (3, a_ist 1 3), (4, a_ild 1 3), (5, a_ald 1 0), (6, a_getf 1 4), (9, a_br 72 b_icmp_ge), (12, a_ald 1 0), (13, a_getf 1 0), (16, a_ild 1 3), (17, a_aald 3), (18, a_getf 3 1), (21, a_stk 1 (s_push (.int (-1)))), (22, a_br 66 b_icmp_ne), (25, a_ald 1 0), (26, a_getf 1 0), (29, a_ild 1 3), (30, a_aald 3), (31, a_getf 3 0), (34, a_ild 1 1), (35, a_br 66 b_icmp_lt), (38, a_ild 1 2), (39, a_stk 1 (s_push (.int (-1)))), (40, a_br 64 b_icmp_eq), (43, a_ald 1 0), (44, a_getf 1 0), (47, a_ild 1 3), (48, a_aald 3), (49, a_getf 3 0), (52, a_ald 1 0), (53, a_getf 1 0), (56, a_ild 1 2), (57, a_aald 3), (58, a_getf 3 0), (61, a_br 66 b_icmp_ge), (64, a_ild 1 3), (65, a_ist 1 2), (66, a_iinc 3 1), (69, a_goto 4), (72, a_ild 1 2), (73, a_ret 0)]
def jcX1_freeTugFor : List (Nat × JA) := [(0, a_stk 1 (s_push (.int (-1)))), (1, a_ist 1 2), (2, a_stk 1 (s_push (.int 0))), (3, a_ist 1 3), (4, a_ild 1 3), (5, a_ald 1 0), (6, a_getf 1 5), (9, a_br 72 b_icmp_ge), (12, a_ald 1 0), (13, a_getf 1 1), (16, a_ild 1 3), (17, a_aald 4), (18, a_getf 5 1), (21, a_stk 1 (s_push (.int (-1)))), (22, a_br 66 b_icmp_ne), (25, a_ald 1 0), (26, a_getf 1 1), (29, a_ild 1 3), (30, a_aald 4), (31, a_getf 5 0), (34, a_ild 1 1), (35, a_br 66 b_icmp_lt), (38, a_ild 1 2), (39, a_stk 1 (s_push (.int (-1)))), (40, a_br 64 b_icmp_eq), (43, a_ald 1 0), (44, a_getf 1 1), (47, a_ild 1 3), (48, a_aald 4), (49, a_getf 5 0), (52, a_ald 1 0), (53, a_getf 1 1), (56, a_ild 1 2), (57, a_aald 4), (58, a_getf 5 0), (61, a_br 66 b_icmp_ge), (64, a_ild 1 3), (65, a_ist 1 2), (66, a_iinc 3 1), (69, a_goto 4), (72, a_ild 1 2), (73, a_ret 0)]
def jcX1_reason_p1 : List (Nat × JA) := [(0, a_ald 1 0), (1, a_getf 1 2), (4, a_ild 1 1), (5, a_aald 5), (6, a_ast 1 2), (7, a_ald 1 2), (8, a_getf 0 5), (11, a_br 16 b_if_ne), (14, a_stk 1 (s_push (.int 1))), (15, a_ret 0), (16, a_ald 1 2), (17, a_getf 0 5), (20, a_stk 1 (s_push (.int 3))), (21, a_br 26 b_icmp_ne), (24, a_stk 1 (s_push (.int 2))), (25, a_ret 0), (26, a_ald 1 2), (27, a_inv 3 0 0 []), (30, a_br 35 b_if_ne), (33, a_stk 1 (s_push (.int 3))), (34, a_ret 0), (35, a_ald 1 2), (36, a_getf 0 3), (39, a_ald 1 0), (40, a_getf 1 7), (43, a_br 48 b_icmp_le), (46, a_stk 1 (s_push (.int 4))), (47, a_ret 0), (48, a_ald 1 0), (49, a_inv 29 0 1 []), (52, a_br 57 b_if_eq), (55, a_stk 1 (s_push (.int 5))), (56, a_ret 0), (57, a_ald 1 2), (58, a_getf 0 6), (61, a_stk 1 (s_push (.int (-1)))), (62, a_br 94 b_icmp_eq), (65, a_ald 1 0), (66, a_ald 1 2), (67, a_getf 0 6)]
def jcX1_reason_p2 : List (Nat × JA) := [(70, a_stk 1 (s_push (.int 1))), (71, a_stk 1 s_isub), (72, a_inv 30 1 1 []), (75, a_br 91 b_if_ne), (78, a_ald 1 0), (79, a_ald 1 2), (80, a_getf 0 6), (83, a_stk 1 (s_push (.int 1))), (84, a_stk 1 s_iadd), (85, a_inv 30 1 1 []), (88, a_br 94 b_if_eq), (91, a_stk 2 (s_push (.int 6))), (93, a_ret 0), (94, a_ald 1 0), (95, a_ald 1 2), (96, a_getf 0 1), (99, a_inv 27 1 1 []), (102, a_stk 1 (s_push (.int (-1)))), (103, a_br 111 b_icmp_ne), (106, a_stk 2 (s_push (.int 7))), (108, a_goto 112), (111, a_stk 1 (s_push (.int 0))), (112, a_ret 0)]
def jcX1_reason : List (Nat × JA) := jcX1_reason_p1 ++ (jcX1_reason_p2)
def jcX1_isCurfew : List (Nat × JA) := [(0, a_ald 1 0), (1, a_getf 1 7), (4, a_stk 3 (s_push (.int 1440))), (7, a_stk 1 s_irem), (8, a_ist 1 1), (9, a_ild 1 1), (10, a_ald 1 0), (11, a_getf 1 8), (14, a_br 29 b_icmp_lt), (17, a_ild 1 1), (18, a_ald 1 0), (19, a_getf 1 9), (22, a_br 29 b_icmp_ge), (25, a_stk 1 (s_push (.int 1))), (26, a_goto 30), (29, a_stk 1 (s_push (.int 0))), (30, a_ret 0)]
def jcX1_isPushedFrom : List (Nat × JA) := [(0, a_ild 1 1), (1, a_br 50 b_if_lt), (4, a_ild 1 1), (5, a_ald 1 0), (6, a_getf 1 4), (9, a_br 50 b_icmp_ge), (12, a_ald 1 0), (13, a_getf 1 0), (16, a_ild 1 1), (17, a_aald 3), (18, a_getf 3 1), (21, a_stk 1 (s_push (.int (-1)))), (22, a_br 50 b_icmp_eq), (25, a_ald 1 0), (26, a_getf 1 2), (29, a_ald 1 0), (30, a_getf 1 0), (33, a_ild 1 1), (34, a_aald 3), (35, a_getf 3 1), (38, a_aald 5), (39, a_getf 0 5), (42, a_stk 1 (s_push (.int 4))), (43, a_br 50 b_icmp_ne), (46, a_stk 1 (s_push (.int 1))), (47, a_goto 51), (50, a_stk 1 (s_push (.int 0))), (51, a_ret 0)]
def jcX1_passUntilAllGone : List (Nat × JA) := [(0, a_stk 1 (s_push (.int 0))), (1, a_ist 1 1), (2, a_stk 1 (s_push (.int 0))), (3, a_ist 1 2), (4, a_ild 1 2), (5, a_stk 3 (s_push (.int 3000))), (8, a_br 43 b_icmp_ge), (11, a_ild 1 1), (12, a_stk 3 (s_push (.int 3000))), (15, a_br 43 b_icmp_ge), (18, a_ald 1 0), (19, a_inv 32 0 1 []), (22, a_br 43 b_if_ne), (25, a_ild 1 1), (26, a_ald 1 0), (27, a_stk 3 (s_push (.int 3000))), (30, a_ild 1 1), (31, a_stk 1 s_isub), (32, a_inv 15 1 1 []), (35, a_stk 1 s_iadd), (36, a_ist 1 1), (37, a_iinc 2 1), (40, a_goto 4), (43, a_ald 1 0), (44, a_inv 32 0 1 []), (47, a_br 54 b_if_eq), (50, a_ild 1 1), (51, a_goto 55), (54, a_stk 1 (s_push (.int (-1)))), (55, a_ret 0)]
def jcX1_areAllGone : List (Nat × JA) := [(0, a_ald 1 0), (1, a_stk 1 (s_push (.int 5))), (2, a_inv 33 1 1 []), (5, a_ald 1 0), (6, a_getf 1 6), (9, a_br 16 b_icmp_ne), (12, a_stk 1 (s_push (.int 1))), (13, a_goto 17), (16, a_stk 1 (s_push (.int 0))), (17, a_ret 0)]
def jcX1_countAt : List (Nat × JA) := [(0, a_stk 1 (s_push (.int 0))), (1, a_ist 1 2), (2, a_stk 1 (s_push (.int 0))), (3, a_ist 1 3), (4, a_ild 1 3), (5, a_ald 1 0), (6, a_getf 1 6), (9, a_br 34 b_icmp_ge), (12, a_ald 1 0), (13, a_getf 1 2), (16, a_ild 1 3), (17, a_aald 5), (18, a_getf 0 5), (21, a_ild 1 1), (22, a_br 28 b_icmp_ne), (25, a_iinc 2 1), (28, a_iinc 3 1), (31, a_goto 4), (34, a_ild 1 2), (35, a_ret 0)]
def jcX1_sumOfDelays : List (Nat × JA) := [(0, a_stk 1 (s_push (.int 0))), (1, a_ist 1 1), (2, a_stk 1 (s_push (.int 0))), (3, a_ist 1 2), (4, a_ild 1 2), (5, a_ald 1 0), (6, a_getf 1 6), (9, a_br 34 b_icmp_ge), (12, a_ild 1 1), (13, a_stk 1 (s_push (.int 0))), (14, a_ald 1 0), (15, a_getf 1 2), (18, a_ild 1 2), (19, a_aald 5), (20, a_getf 0 7), (23, a_mmax), (26, a_stk 1 s_iadd), (27, a_ist 1 1), (28, a_iinc 2 1), (31, a_goto 4), (34, a_ild 1 1), (35, a_ret 0)]
def jcX1_greatestDelay : List (Nat × JA) := [(0, a_stk 1 (s_push (.int 0))), (1, a_ist 1 1), (2, a_stk 1 (s_push (.int 0))), (3, a_ist 1 2), (4, a_ild 1 2), (5, a_ald 1 0), (6, a_getf 1 6), (9, a_br 32 b_icmp_ge), (12, a_ild 1 1), (13, a_ald 1 0), (14, a_getf 1 2), (17, a_ild 1 2), (18, a_aald 5), (19, a_getf 0 7), (22, a_mmax), (25, a_ist 1 1), (26, a_iinc 2 1), (29, a_goto 4), (32, a_ild 1 1), (33, a_ret 0)]
def jcX1_sumOfBuses : List (Nat × JA) := [(0, a_stk 1 (s_push (.int 0))), (1, a_ist 1 1), (2, a_stk 1 (s_push (.int 0))), (3, a_ist 1 2), (4, a_ild 1 2), (5, a_ald 1 0), (6, a_getf 1 6), (9, a_br 30 b_icmp_ge), (12, a_ild 1 1), (13, a_ald 1 0), (14, a_getf 1 2), (17, a_ild 1 2), (18, a_aald 5), (19, a_getf 0 9), (22, a_stk 1 s_iadd), (23, a_ist 1 1), (24, a_iinc 2 1), (27, a_goto 4), (30, a_ild 1 1), (31, a_ret 0)]
def jcX1_standAnswer : List (Nat × JA) := [(0, a_ild 1 2), (1, a_sw [28, 38, 48] 62), (28, a_ald 1 0), (29, a_getf 1 0), (32, a_ild 1 1), (33, a_aald 3), (34, a_getf 3 0), (37, a_ret 0), (38, a_ald 1 0), (39, a_getf 1 0), (42, a_ild 1 1), (43, a_aald 3), (44, a_getf 3 1), (47, a_ret 0), (48, a_ald 1 0), (49, a_ild 1 1), (50, a_inv 30 1 1 []), (53, a_br 60 b_if_eq), (56, a_stk 1 (s_push (.int 1))), (57, a_goto 61), (60, a_stk 1 (s_push (.int 0))), (61, a_ret 0), (62, a_ald 1 0), (63, a_getf 1 0), (66, a_ild 1 1), (67, a_aald 3), (68, a_getf 3 2), (71, a_ret 0)]
def jcX1_answer : List (Nat × JA) := [(0, a_ild 1 1), (1, a_sw [80, 85, 90, 95, 100, 105, 133, 133, 133, 133, 133, 133, 110, 115, 120, 125] 133), (80, a_ald 1 0), (81, a_getf 1 4), (84, a_ret 0), (85, a_ald 1 0), (86, a_getf 1 5), (89, a_ret 0), (90, a_ald 1 0), (91, a_getf 1 6), (94, a_ret 0), (95, a_ald 1 0), (96, a_getf 1 7), (99, a_ret 0), (100, a_ald 1 0), (101, a_getf 1 8), (104, a_ret 0), (105, a_ald 1 0), (106, a_getf 1 9), (109, a_ret 0), (110, a_ald 1 0), (111, a_inv 34 0 1 []), (114, a_ret 0), (115, a_ald 1 0), (116, a_inv 35 0 1 []), (119, a_ret 0), (120, a_ald 1 0), (121, a_inv 36 0 1 []), (124, a_ret 0), (125, a_ald 1 0), (126, a_getf 1 3), (129, a_inv 41 0 2 []), (132, a_ret 0), (133, a_ald 1 0), (134, a_ild 1 1), (135, a_stk 2 (s_push (.int 6))), (137, a_stk 1 s_isub), (138, a_inv 33 1 1 []), (141, a_ret 0)]
def jcX2_init : List (Nat × JA) := [(0, a_ald 1 0), (1, a_oini), (4, a_ald 1 0), (5, a_stk 2 (s_push (.int 30))), (7, a_newi 0), (9, a_putr 2 0), (12, a_ald 1 0), (13, a_stk 2 (s_push (.int 30))), (15, a_newi 0), (17, a_putr 2 1), (20, a_ald 1 0), (21, a_stk 2 (s_push (.int 30))), (23, a_newi 0), (25, a_putr 2 2), (28, a_ret 4)]
def jcX2_put : List (Nat × JA) := [(0, a_ald 1 0), (1, a_getf 2 3), (4, a_stk 2 (s_push (.int 30))), (6, a_stk 1 s_irem), (7, a_ist 2 4), (9, a_ald 1 0), (10, a_getf 2 0), (13, a_ild 2 4), (15, a_ild 1 1), (16, a_iast), (17, a_ald 1 0), (18, a_getf 2 1), (21, a_ild 2 4), (23, a_ild 1 2), (24, a_iast), (25, a_ald 1 0), (26, a_getf 2 2), (29, a_ild 2 4), (31, a_ild 1 3), (32, a_iast), (33, a_ald 1 0), (34, a_stk 1 s_dup), (35, a_getf 2 3), (38, a_stk 1 (s_push (.int 1))), (39, a_stk 1 s_iadd), (40, a_puti 2 3), (43, a_ret 4)]
def jcX2_kept : List (Nat × JA) := [(0, a_ald 1 0), (1, a_getf 2 3), (4, a_stk 2 (s_push (.int 30))), (6, a_mmin), (9, a_ret 0)]
def jcX2_copyFrom : List (Nat × JA) := [(0, a_ald 1 1), (1, a_getf 2 0), (4, a_stk 1 (s_push (.int 0))), (5, a_ald 1 0), (6, a_getf 2 0), (9, a_stk 1 (s_push (.int 0))), (10, a_stk 2 (s_push (.int 30))), (12, a_copy), (15, a_ald 1 1), (16, a_getf 2 1), (19, a_stk 1 (s_push (.int 0))), (20, a_ald 1 0), (21, a_getf 2 1), (24, a_stk 1 (s_push (.int 0))), (25, a_stk 2 (s_push (.int 30))), (27, a_copy), (30, a_ald 1 1), (31, a_getf 2 2), (34, a_stk 1 (s_push (.int 0))), (35, a_ald 1 0), (36, a_getf 2 2), (39, a_stk 1 (s_push (.int 0))), (40, a_stk 2 (s_push (.int 30))), (42, a_copy), (45, a_ald 1 0), (46, a_ald 1 1), (47, a_getf 2 3), (50, a_puti 2 3), (53, a_ret 4)]
def jcX3_init : List (Nat × JA) := [(0, a_ald 1 0), (1, a_oini), (4, a_ret 4)]
def jcX3_restart : List (Nat × JA) := [(0, a_ald 1 0), (1, a_stk 1 (s_push (.int (-1)))), (2, a_puti 3 1), (5, a_ald 1 0), (6, a_stk 1 (s_push (.int 0))), (7, a_puti 3 2), (10, a_ret 4)]
def jcX3_copyFrom : List (Nat × JA) := [(0, a_ald 1 0), (1, a_ald 1 1), (2, a_getf 3 0), (5, a_puti 3 0), (8, a_ald 1 0), (9, a_ald 1 1), (10, a_getf 3 1), (13, a_puti 3 1), (16, a_ald 1 0), (17, a_ald 1 1), (18, a_getf 3 2), (21, a_puti 3 2), (24, a_ret 4)]
def jcX4_init : List (Nat × JA) := [(0, a_ald 1 0), (1, a_oini), (4, a_ald 1 0), (5, a_stk 2 (s_push (.int 90))), (7, a_newi 0), (9, a_putr 4 0), (12, a_ald 1 0), (13, a_stk 2 (s_push (.int 12))), (15, a_newi 0), (17, a_putr 4 2), (20, a_ald 1 0), (21, a_stk 2 (s_push (.int 12))), (23, a_newi 0), (25, a_putr 4 3), (28, a_ald 1 0), (29, a_stk 2 (s_push (.int 12))), (31, a_newi 0), (33, a_putr 4 4), (36, a_ald 1 0), (37, a_stk 2 (s_push (.int 12))), (39, a_newi 0), (41, a_putr 4 5), (44, a_ret 4)]
def jcX5_init : List (Nat × JA) := [(0, a_ald 1 0), (1, a_oini), (4, a_ret 4)]
def jcX5_restart : List (Nat × JA) := [(0, a_ald 1 0), (1, a_stk 1 (s_push (.int (-1)))), (2, a_puti 5 1), (5, a_ald 1 0), (6, a_stk 1 (s_push (.int 0))), (7, a_puti 5 2), (10, a_ald 1 0), (11, a_stk 1 (s_push (.int 0))), (12, a_puti 5 3), (15, a_ald 1 0), (16, a_stk 1 (s_push (.int 0))), (17, a_puti 5 4), (20, a_ret 4)]
def jcX5_copyFrom : List (Nat × JA) := [(0, a_ald 1 0), (1, a_ald 1 1), (2, a_getf 5 0), (5, a_puti 5 0), (8, a_ald 1 0), (9, a_ald 1 1), (10, a_getf 5 1), (13, a_puti 5 1), (16, a_ald 1 0), (17, a_ald 1 1), (18, a_getf 5 2), (21, a_puti 5 2), (24, a_ald 1 0), (25, a_ald 1 1), (26, a_getf 5 3), (29, a_puti 5 3), (32, a_ald 1 0), (33, a_ald 1 1), (34, a_getf 5 4), (37, a_puti 5 4), (40, a_ret 4)]
def jcX5_take : List (Nat × JA) := [(0, a_ald 1 0), (1, a_ild 1 1), (2, a_puti 5 1), (5, a_ald 1 0), (6, a_ild 1 2), (7, a_puti 5 2), (10, a_ret 4)]
def jcX5_answer : List (Nat × JA) := [(0, a_ild 1 1), (1, a_sw [32, 37, 42, 47] 52), (32, a_ald 1 0), (33, a_getf 5 0), (36, a_ret 0), (37, a_ald 1 0), (38, a_getf 5 1), (41, a_ret 0), (42, a_ald 1 0), (43, a_getf 5 2), (46, a_ret 0), (47, a_ald 1 0), (48, a_getf 5 3), (51, a_ret 0), (52, a_ald 1 0), (53, a_getf 5 4), (56, a_ret 0)]
def jcX6_init : List (Nat × JA) := [(0, a_ald 1 0), (1, a_oini), (4, a_ald 1 0), (5, a_new 1 10 [.null, .null, .null, .null, .int 0, .int 0, .int 0, .int 0, .int 0, .int 0]), (8, a_stk 1 s_dup), (9, a_ini 6 0), (12, a_putr 6 0), (15, a_ald 1 0), (16, a_new 1 10 [.null, .null, .null, .null, .int 0, .int 0, .int 0, .int 0, .int 0, .int 0]), (19, a_stk 1 s_dup), (20, a_ini 6 0), (23, a_putr 6 1), (26, a_ald 1 0), (27, a_stk 1 (s_push (.int 4))), (28, a_newq 6), (31, a_putr 6 2), (34, a_stk 1 (s_push (.int 0))), (35, a_ist 1 1), (36, a_ild 1 1), (37, a_stk 1 (s_push (.int 4))), (38, a_br 60 b_icmp_ge), (41, a_ald 1 0), (42, a_getf 6 2), (45, a_ild 1 1), (46, a_new 1 10 [.null, .null, .null, .null, .int 0, .int 0, .int 0, .int 0, .int 0, .int 0]), (49, a_stk 1 s_dup), (50, a_ini 6 0), (53, a_aast 6 1), (54, a_iinc 1 1), (57, a_goto 36), (60, a_ald 1 0), (61, a_stk 1 (s_push (.int 0))), (62, a_puti 6 3), (65, a_ald 1 0), (66, a_new 4 9 [.null, .int 0, .null, .null, .null, .null, .int 0, .int 0, .int 0]), (69, a_stk 1 s_dup), (70, a_ini 47 0), (73, a_putr 6 4), (76, a_ret 4)]
def jcX6_begin : List (Nat × JA) := [(0, a_ild 1 1), (1, a_stk 1 (s_push (.int 1))), (2, a_stk 2 (s_push (.int 6))), (4, a_ins 85 3), (7, a_br 19 b_if_ne), (10, a_ild 1 2), (11, a_stk 1 (s_push (.int 1))), (12, a_stk 1 (s_push (.int 3))), (13, a_ins 85 3), (16, a_br 29 b_if_eq), (19, a_thr "java/lang/IllegalArgumentException"), (29, a_ald 1 0), (30, a_getf 6 0), (33, a_getf 1 7), (36, a_ist 1 3), (37, a_ald 1 0), (38, a_inv 87 0 6 []), (41, a_ald 1 0), (42, a_getf 6 0), (45, a_ild 1 1), (46, a_ild 1 2), (47, a_inv 7 2 1 []), (50, a_ild 1 3), (51, a_ret 0)]
def jcX6_setSpan : List (Nat × JA) := [(0, a_ald 1 0), (1, a_getf 6 0), (4, a_ild 1 1), (5, a_inv 10 1 1 []), (8, a_br 21 b_if_ne), (11, a_thr "java/lang/IndexOutOfBoundsException"), (21, a_ild 1 2), (22, a_stk 1 (s_push (.int 1))), (23, a_stk 1 (s_push (.int 4))), (24, a_ins 85 3), (27, a_br 40 b_if_eq), (30, a_thr "java/lang/IllegalArgumentException"), (40, a_ald 1 0), (41, a_getf 6 0), (44, a_getf 1 0), (47, a_ild 1 1), (48, a_aald 3), (49, a_getf 3 0), (52, a_ist 1 3), (53, a_ald 1 0), (54, a_inv 87 0 6 []), (57, a_ald 1 0), (58, a_getf 6 0), (61, a_getf 1 0), (64, a_ild 1 1), (65, a_aald 3), (66, a_ild 1 2), (67, a_puti 3 0), (70, a_ild 1 3), (71, a_ret 0)]
def jcX6_setStrength : List (Nat × JA) := [(0, a_ald 1 0), (1, a_getf 6 0), (4, a_ild 1 1), (5, a_inv 11 1 1 []), (8, a_br 21 b_if_ne), (11, a_thr "java/lang/IndexOutOfBoundsException"), (21, a_ild 1 2), (22, a_stk 1 (s_push (.int 1))), (23, a_stk 1 (s_push (.int 3))), (24, a_ins 85 3), (27, a_br 40 b_if_eq), (30, a_thr "java/lang/IllegalArgumentException"), (40, a_ald 1 0), (41, a_getf 6 0), (44, a_getf 1 1), (47, a_ild 1 1), (48, a_aald 4), (49, a_getf 5 0), (52, a_ist 1 3), (53, a_ald 1 0), (54, a_inv 87 0 6 []), (57, a_ald 1 0), (58, a_getf 6 0), (61, a_getf 1 1), (64, a_ild 1 1), (65, a_aald 4), (66, a_ild 1 2), (67, a_puti 5 0), (70, a_ild 1 3), (71, a_ret 0)]
def jcX6_setCurfew : List (Nat × JA) := [(0, a_ild 1 1), (1, a_stk 1 (s_push (.int 0))), (2, a_stk 3 (s_push (.int 1440))), (5, a_ins 85 3), (8, a_br 22 b_if_ne), (11, a_ild 1 2), (12, a_stk 1 (s_push (.int 0))), (13, a_stk 3 (s_push (.int 1440))), (16, a_ins 85 3), (19, a_br 32 b_if_eq), (22, a_thr "java/lang/IllegalArgumentException"), (32, a_ald 1 0), (33, a_inv 87 0 6 []), (36, a_ald 1 0), (37, a_getf 6 0), (40, a_ild 1 1), (41, a_puti 1 8), (44, a_ald 1 0), (45, a_getf 6 0), (48, a_ild 1 2), (49, a_puti 1 9), (52, a_stk 1 (s_push (.int 0))), (53, a_ild 1 2), (54, a_ild 1 1), (55, a_stk 1 s_isub), (56, a_mmax), (59, a_ret 0)]
def jcX6_expect : List (Nat × JA) := [(0, a_ild 1 1), (1, a_ins 86 1), (4, a_br 42 b_if_eq), (7, a_ild 1 2), (8, a_stk 1 (s_push (.int 0))), (9, a_stk 3 (s_push (.int 1999))), (12, a_ins 85 3), (15, a_br 42 b_if_ne), (18, a_ild 1 3), (19, a_ild 1 2), (20, a_br 42 b_icmp_le), (23, a_ild 1 3), (24, a_stk 3 (s_push (.int 1999))), (27, a_br 42 b_icmp_gt), (30, a_ild 2 4), (32, a_stk 1 (s_push (.int 0))), (33, a_stk 3 (s_push (.int 400))), (36, a_ins 85 3), (39, a_br 52 b_if_eq), (42, a_thr "java/lang/IllegalArgumentException"), (52, a_ald 1 0), (53, a_getf 6 0), (56, a_getf 1 6), (59, a_stk 2 (s_push (.int 12))), (61, a_br 74 b_icmp_lt), (64, a_thr "java/lang/IllegalStateException"), (74, a_ald 1 0), (75, a_getf 6 0), (78, a_getf 1 6), (81, a_ist 2 5), (83, a_ald 1 0), (84, a_inv 87 0 6 []), (87, a_ald 1 0), (88, a_getf 6 0), (91, a_ild 1 1), (92, a_ild 1 2), (93, a_ild 1 3), (94, a_ild 2 4), (96, a_inv 13 4 1 []), (99, a_ild 2 5), (101, a_ret 0)]
def jcX6_setLeaves : List (Nat × JA) := [(0, a_ald 1 0), (1, a_getf 6 0), (4, a_ild 1 1), (5, a_inv 12 1 1 []), (8, a_br 21 b_if_ne), (11, a_thr "java/lang/IndexOutOfBoundsException"), (21, a_ald 1 0), (22, a_getf 6 0), (25, a_getf 1 2), (28, a_ild 1 1), (29, a_aald 5), (30, a_ast 1 3), (31, a_ild 1 2), (32, a_ald 1 3), (33, a_getf 0 2), (36, a_br 46 b_icmp_le), (39, a_ild 1 2), (40, a_stk 3 (s_push (.int 1999))), (43, a_br 56 b_icmp_le), (46, a_thr "java/lang/IllegalArgumentException"), (56, a_ald 1 3), (57, a_getf 0 5), (60, a_stk 1 (s_push (.int 4))), (61, a_br 72 b_icmp_eq), (64, a_ald 1 3), (65, a_getf 0 5), (68, a_stk 1 (s_push (.int 5))), (69, a_br 82 b_icmp_ne), (72, a_thr "java/lang/IllegalStateException"), (82, a_ald 1 3), (83, a_getf 0 3), (86, a_ist 2 4), (88, a_ald 1 0), (89, a_inv 87 0 6 []), (92, a_ald 1 3), (93, a_ild 1 2), (94, a_puti 0 3), (97, a_ild 2 4), (99, a_ret 0)]
def jcX6_pass : List (Nat × JA) := [(0, a_ild 1 1), (1, a_stk 1 (s_push (.int 1))), (2, a_stk 3 (s_push (.int 500))), (5, a_ins 85 3), (8, a_br 21 b_if_eq), (11, a_thr "java/lang/IllegalArgumentException"), (21, a_ald 1 0), (22, a_getf 6 0), (25, a_getf 1 7), (28, a_ild 1 1), (29, a_stk 1 s_iadd), (30, a_stk 3 (s_push (.int 10000))), (33, a_br 46 b_icmp_le), (36, a_thr "java/lang/IllegalStateException"), (46, a_ald 1 0), (47, a_inv 87 0 6 []), (50, a_ald 1 0), (51, a_getf 6 0), (54, a_stk 1 (s_push (.int 5))), (55, a_inv 33 1 1 []), (58, a_ist 1 2), (59, a_stk 1 (s_push (.int 0))), (60, a_ist 1 3), (61, a_stk 1 (s_push (.int 0))), (62, a_ist 2 4), (64, a_ild 2 4), (66, a_ild 1 1), (67, a_br 94 b_icmp_ge), (70, a_ild 1 3), (71, a_ild 1 1), (72, a_br 94 b_icmp_ge), (75, a_ild 1 3), (76, a_ald 1 0), (77, a_getf 6 0), (80, a_ild 1 1), (81, a_ild 1 3), (82, a_stk 1 s_isub), (83, a_inv 15 1 1 []), (86, a_stk 1 s_iadd), (87, a_ist 1 3), (88, a_iinc 4 1), (91, a_goto 64), (94, a_ald 1 0), (95, a_getf 6 0), (98, a_stk 1 (s_push (.int 5))), (99, a_inv 33 1 1 []), (102, a_ild 1 2), (103, a_stk 1 s_isub), (104, a_ret 0)]
def jcX6_aircraft : List (Nat × JA) := [(0, a_ald 1 0), (1, a_getf 6 0), (4, a_ild 1 1), (5, a_inv 12 1 1 []), (8, a_br 21 b_if_ne), (11, a_thr "java/lang/IndexOutOfBoundsException"), (21, a_ild 1 2), (22, a_stk 1 (s_push (.int 0))), (23, a_stk 2 (s_push (.int 9))), (25, a_ins 85 3), (28, a_br 41 b_if_eq), (31, a_thr "java/lang/IllegalArgumentException"), (41, a_ald 1 0), (42, a_getf 6 0), (45, a_getf 1 2), (48, a_ild 1 1), (49, a_aald 5), (50, a_ild 1 2), (51, a_inv 5 1 0 []), (54, a_ret 0)]
def jcX6_stand : List (Nat × JA) := [(0, a_ald 1 0), (1, a_getf 6 0), (4, a_ild 1 1), (5, a_inv 10 1 1 []), (8, a_br 21 b_if_ne), (11, a_thr "java/lang/IndexOutOfBoundsException"), (21, a_ild 1 2), (22, a_stk 1 (s_push (.int 0))), (23, a_stk 1 (s_push (.int 3))), (24, a_ins 85 3), (27, a_br 40 b_if_eq), (30, a_thr "java/lang/IllegalArgumentException"), (40, a_ald 1 0), (41, a_getf 6 0), (44, a_ild 1 1), (45, a_ild 1 2), (46, a_inv 37 2 1 []), (49, a_ret 0)]
def jcX6_tug : List (Nat × JA) := [(0, a_ald 1 0), (1, a_getf 6 0), (4, a_ild 1 1), (5, a_inv 11 1 1 []), (8, a_br 21 b_if_ne), (11, a_thr "java/lang/IndexOutOfBoundsException"), (21, a_ild 1 2), (22, a_stk 1 (s_push (.int 0))), (23, a_stk 1 (s_push (.int 4))), (24, a_ins 85 3), (27, a_br 40 b_if_eq), (30, a_thr "java/lang/IllegalArgumentException"), (40, a_ald 1 0), (41, a_getf 6 0), (44, a_getf 1 1), (47, a_ild 1 1), (48, a_aald 4), (49, a_ild 1 2), (50, a_inv 60 1 5 []), (53, a_ret 0)]
def jcX6_value : List (Nat × JA) := [(0, a_ild 1 1), (1, a_stk 1 (s_push (.int 0))), (2, a_stk 2 (s_push (.int 15))), (4, a_ins 85 3), (7, a_br 20 b_if_eq), (10, a_thr "java/lang/IllegalArgumentException"), (20, a_ald 1 0), (21, a_getf 6 0), (24, a_ild 1 1), (25, a_inv 38 1 1 []), (28, a_ret 0)]
def jcX6_why : List (Nat × JA) := [(0, a_ald 1 0), (1, a_getf 6 0), (4, a_ild 1 1), (5, a_inv 12 1 1 []), (8, a_br 21 b_if_ne), (11, a_thr "java/lang/IndexOutOfBoundsException"), (21, a_ald 1 0), (22, a_getf 6 0), (25, a_ild 1 1), (26, a_inv 28 1 1 []), (29, a_ret 0)]
def jcX6_delayOf : List (Nat × JA) := [(0, a_ald 1 0), (1, a_getf 6 0), (4, a_ild 1 1), (5, a_inv 12 1 1 []), (8, a_br 21 b_if_ne), (11, a_thr "java/lang/IndexOutOfBoundsException"), (21, a_ald 1 0), (22, a_getf 6 1), (25, a_ald 1 0), (26, a_getf 6 0), (29, a_inv 9 1 1 []), (32, a_ald 1 0), (33, a_getf 6 1), (36, a_getf 1 2), (39, a_ild 1 1), (40, a_aald 5), (41, a_ast 1 2), (42, a_stk 1 (s_push (.int 0))), (43, a_ist 1 3), (44, a_stk 1 (s_push (.int 0))), (45, a_ist 2 4), (47, a_ild 2 4), (49, a_stk 3 (s_push (.int 3000))), (52, a_br 91 b_icmp_ge), (55, a_ild 1 3), (56, a_stk 3 (s_push (.int 3000))), (59, a_br 91 b_icmp_ge), (62, a_ald 1 2), (63, a_getf 0 7), (66, a_stk 1 (s_push (.int (-1)))), (67, a_br 91 b_icmp_ne), (70, a_ild 1 3), (71, a_ald 1 0), (72, a_getf 6 1), (75, a_stk 3 (s_push (.int 3000))), (78, a_ild 1 3), (79, a_stk 1 s_isub), (80, a_inv 15 1 1 []), (83, a_stk 1 s_iadd), (84, a_ist 1 3), (85, a_iinc 4 1), (88, a_goto 47), (91, a_ald 1 2), (92, a_getf 0 7), (95, a_ret 0)]
def jcX6_minutesToAll : List (Nat × JA) := [(0, a_ald 1 0), (1, a_getf 6 1), (4, a_ald 1 0), (5, a_getf 6 0), (8, a_inv 9 1 1 []), (11, a_ald 1 0), (12, a_getf 6 1), (15, a_inv 31 0 1 []), (18, a_ret 0)]
def jcX6_used : List (Nat × JA) := [(0, a_ald 1 0), (1, a_getf 6 0), (4, a_getf 1 7), (7, a_br 12 b_if_ne), (10, a_stk 1 (s_push (.double FP.dconst0))), (11, a_ret 3), (12, a_stk 1 (s_push (.int 0))), (13, a_ist 1 1), (14, a_stk 1 (s_push (.int 0))), (15, a_ist 1 2), (16, a_ild 1 2), (17, a_ald 1 0), (18, a_getf 6 0), (21, a_getf 1 4), (24, a_br 48 b_icmp_ge), (27, a_ild 1 1), (28, a_ald 1 0), (29, a_getf 6 0), (32, a_getf 1 0), (35, a_ild 1 2), (36, a_aald 3), (37, a_getf 3 2), (40, a_stk 1 s_iadd), (41, a_ist 1 1), (42, a_iinc 2 1), (45, a_goto 16), (48, a_ild 1 1), (49, a_stk 1 s_i2d), (50, a_ald 1 0), (51, a_getf 6 0), (54, a_getf 1 4), (57, a_ald 1 0), (58, a_getf 6 0), (61, a_getf 1 7), (64, a_stk 1 s_imul), (65, a_stk 1 s_i2d), (66, a_stk 1 s_ddiv), (67, a_ret 3)]
def jcX6_undo : List (Nat × JA) := [(0, a_ald 1 0), (1, a_getf 6 3), (4, a_br 17 b_if_ne), (7, a_thr "java/lang/IllegalStateException"), (17, a_ald 1 0), (18, a_stk 1 s_dup), (19, a_getf 6 3), (22, a_stk 1 (s_push (.int 1))), (23, a_stk 1 s_isub), (24, a_puti 6 3), (27, a_ald 1 0), (28, a_getf 6 0), (31, a_ald 1 0), (32, a_getf 6 2), (35, a_ald 1 0), (36, a_getf 6 3), (39, a_aald 6), (40, a_inv 9 1 1 []), (43, a_ald 1 0), (44, a_getf 6 3), (47, a_ret 0)]
def jcX6_isOutside : List (Nat × JA) := [(0, a_ild 1 0), (1, a_ild 1 1), (2, a_br 10 b_icmp_lt), (5, a_ild 1 0), (6, a_ild 1 2), (7, a_br 14 b_icmp_le), (10, a_stk 1 (s_push (.int 1))), (11, a_goto 15), (14, a_stk 1 (s_push (.int 0))), (15, a_ret 0)]
def jcX6_isKind : List (Nat × JA) := [(0, a_ild 1 0), (1, a_stk 2 (s_push (.int 11))), (3, a_stk 2 (s_push (.int 43))), (5, a_ins 85 3), (8, a_br 27 b_if_ne), (11, a_ild 1 0), (12, a_stk 2 (s_push (.int 10))), (14, a_stk 1 s_irem), (15, a_stk 1 (s_push (.int 1))), (16, a_stk 1 (s_push (.int 3))), (17, a_ins 85 3), (20, a_br 27 b_if_ne), (23, a_stk 1 (s_push (.int 1))), (24, a_goto 28), (27, a_stk 1 (s_push (.int 0))), (28, a_ret 0)]
def jcX6_save : List (Nat × JA) := [(0, a_ald 1 0), (1, a_getf 6 3), (4, a_stk 1 (s_push (.int 4))), (5, a_br 12 b_icmp_ne), (8, a_ald 1 0), (9, a_inv 88 0 6 []), (12, a_ald 1 0), (13, a_getf 6 2), (16, a_ald 1 0), (17, a_getf 6 3), (20, a_aald 6), (21, a_ald 1 0), (22, a_getf 6 0), (25, a_inv 9 1 1 []), (28, a_ald 1 0), (29, a_stk 1 s_dup), (30, a_getf 6 3), (33, a_stk 1 (s_push (.int 1))), (34, a_stk 1 s_iadd), (35, a_puti 6 3), (38, a_ret 4)]
def jcX6_dropOldest : List (Nat × JA) := [(0, a_ald 1 0), (1, a_getf 6 2), (4, a_stk 1 (s_push (.int 0))), (5, a_aald 6), (6, a_ast 1 1), (7, a_stk 1 (s_push (.int 1))), (8, a_ist 1 2), (9, a_ild 1 2), (10, a_stk 1 (s_push (.int 4))), (11, a_br 34 b_icmp_ge), (14, a_ald 1 0), (15, a_getf 6 2), (18, a_ild 1 2), (19, a_stk 1 (s_push (.int 1))), (20, a_stk 1 s_isub), (21, a_ald 1 0), (22, a_getf 6 2), (25, a_ild 1 2), (26, a_aald 6), (27, a_aast 6 1), (28, a_iinc 2 1), (31, a_goto 9), (34, a_ald 1 0), (35, a_getf 6 2), (38, a_stk 1 (s_push (.int 3))), (39, a_ald 1 1), (40, a_aast 6 1), (41, a_ald 1 0), (42, a_stk 1 s_dup), (43, a_getf 6 3), (46, a_stk 1 (s_push (.int 1))), (47, a_stk 1 s_isub), (48, a_puti 6 3), (51, a_ret 4)]
def jcL_up : List (Nat × JA) := [(0, a_ild 1 0), (1, a_ldci 2147483647), (3, a_stk 1 s_iand), (4, a_ild 1 1), (5, a_stk 1 s_irem), (6, a_ret 0)]
def jcL_fields_p1 : List (Nat × JA) := [(0, a_ald 1 0), (1, a_stk 1 (s_push (.int 4))), (2, a_stk 1 (s_push (.int 3))), (3, a_inv 62 2 6 []), (6, a_br 22 b_if_ne), (9, a_ald 1 1), (10, a_stk 1 (s_push (.int 4))), (11, a_stk 1 (s_push (.int 3))), (12, a_inv 62 2 6 []), (15, a_br 22 b_if_ne), (18, a_stk 1 (s_push (.int 1))), (19, a_goto 23), (22, a_stk 1 (s_push (.int 0))), (23, a_ist 1 3), (24, a_ild 1 2), (25, a_stk 1 (s_push (.int 4))), (26, a_ins 157 2), (29, a_ist 2 4), (31, a_stk 1 (s_push (.int 0))), (32, a_ist 2 5), (34, a_ild 2 5), (36, a_stk 1 (s_push (.int 4))), (37, a_br 95 b_icmp_ge), (40, a_stk 1 (s_push (.int 1))), (41, a_ild 2 5), (43, a_stk 1 (s_push (.int 3))), (44, a_stk 1 s_imul), (45, a_ild 2 4), (47, a_stk 1 s_iadd), (48, a_stk 1 (s_push (.int 4))), (49, a_stk 1 s_irem), (50, a_stk 1 s_iadd), (51, a_ist 2 6), (53, a_ild 1 3), (54, a_br 87 b_if_eq), (57, a_ald 1 0), (58, a_ild 2 5), (60, a_ild 2 6), (62, a_inv 63 2 6 []), (65, a_stk 1 (s_push (.int 2)))]
def jcL_fields_p2 : List (Nat × JA) := [(66, a_br 87 b_icmp_ne), (69, a_ald 1 1), (70, a_stk 1 (s_push (.int 3))), (71, a_ild 2 5), (73, a_stk 1 s_isub), (74, a_ild 2 6), (76, a_inv 63 2 6 []), (79, a_stk 1 (s_push (.int 2))), (80, a_br 87 b_icmp_ne), (83, a_stk 1 (s_push (.int 1))), (84, a_goto 88), (87, a_stk 1 (s_push (.int 0))), (88, a_ist 1 3), (89, a_iinc 5 1), (92, a_goto 34), (95, a_stk 1 (s_push (.int 0))), (96, a_ist 2 5), (98, a_ild 2 5), (100, a_stk 1 (s_push (.int 3))), (101, a_br 157 b_icmp_ge), (104, a_stk 1 (s_push (.int 1))), (105, a_ild 2 5), (107, a_ild 2 4), (109, a_stk 1 s_iadd), (110, a_stk 1 (s_push (.int 3))), (111, a_stk 1 s_irem), (112, a_stk 1 s_iadd), (113, a_ist 2 6), (115, a_ild 1 3), (116, a_br 149 b_if_eq), (119, a_ald 1 0), (120, a_ild 2 5), (122, a_ild 2 6), (124, a_inv 64 2 6 []), (127, a_stk 1 (s_push (.int 3))), (128, a_br 149 b_icmp_ne), (131, a_ald 1 1), (132, a_stk 1 (s_push (.int 2))), (133, a_ild 2 5), (135, a_stk 1 s_isub)]
def jcL_fields_p3 : List (Nat × JA) := [(136, a_ild 2 6), (138, a_inv 64 2 6 []), (141, a_stk 1 (s_push (.int 3))), (142, a_br 149 b_icmp_ne), (145, a_stk 1 (s_push (.int 1))), (146, a_goto 150), (149, a_stk 1 (s_push (.int 0))), (150, a_ist 1 3), (151, a_iinc 5 1), (154, a_goto 98), (157, a_ild 1 3), (158, a_ret 0)]
def jcL_fields : List (Nat × JA) := jcL_fields_p1 ++ (jcL_fields_p2 ++ (jcL_fields_p3))
def jcL_isStep_p1 : List (Nat × JA) := [(0, a_ild 1 2), (1, a_stk 1 (s_push (.int 4))), (2, a_stk 1 s_ishr), (3, a_ist 1 3), (4, a_ild 1 2), (5, a_stk 2 (s_push (.int 10))), (7, a_ins 157 2), (10, a_sw [44, 91, 91, 91, 198] 288), (44, a_ald 1 0), (45, a_ild 1 3), (46, a_stk 2 (s_push (.int 80))), (48, a_ins 157 2), (51, a_ild 1 3), (52, a_stk 2 (s_push (.int 7))), (54, a_stk 1 s_ishr), (55, a_stk 2 (s_push (.int 120))), (57, a_ins 157 2), (60, a_inv 65 2 6 []), (63, a_ald 1 1), (64, a_ild 1 3), (65, a_stk 2 (s_push (.int 80))), (67, a_ins 157 2), (70, a_ild 1 3), (71, a_stk 2 (s_push (.int 7))), (73, a_stk 1 s_ishr), (74, a_stk 2 (s_push (.int 120))), (76, a_ins 157 2), (79, a_inv 65 2 6 []), (82, a_br 89 b_icmp_ne), (85, a_stk 1 (s_push (.int 1))), (86, a_goto 90), (89, a_stk 1 (s_push (.int 0))), (90, a_ret 0), (91, a_ild 1 3), (92, a_stk 1 (s_push (.int 4))), (93, a_stk 1 s_ishr), (94, a_stk 2 (s_push (.int 120))), (96, a_ins 157 2), (99, a_ist 2 4), (101, a_stk 2 (s_push (.int 11)))]
def jcL_isStep_p2 : List (Nat × JA) := [(103, a_stk 2 (s_push (.int 10))), (105, a_ild 1 3), (106, a_stk 1 (s_push (.int 4))), (107, a_ins 157 2), (110, a_stk 1 s_imul), (111, a_stk 1 s_iadd), (112, a_ild 1 3), (113, a_stk 1 (s_push (.int 2))), (114, a_stk 1 s_ishr), (115, a_stk 1 (s_push (.int 3))), (116, a_ins 157 2), (119, a_stk 1 s_iadd), (120, a_ist 2 5), (122, a_ild 2 4), (124, a_stk 1 (s_push (.int 1))), (125, a_stk 1 s_iadd), (126, a_ild 1 3), (127, a_stk 2 (s_push (.int 11))), (129, a_stk 1 s_ishr), (130, a_stk 3 (s_push (.int 150))), (133, a_ins 157 2), (136, a_stk 1 s_iadd), (137, a_ist 2 6), (139, a_ald 1 0), (140, a_stk 1 (s_push (.int 2))), (141, a_inv 72 1 6 []), (144, a_stk 2 (s_push (.int 12))), (146, a_br 192 b_icmp_eq), (149, a_ald 1 0), (150, a_ild 2 5), (152, a_ild 2 4), (154, a_ild 2 6), (156, a_ild 1 3), (157, a_stk 2 (s_push (.int 8))), (159, a_stk 1 s_ishr), (160, a_stk 3 (s_push (.int 401))), (163, a_ins 157 2), (166, a_inv 66 4 6 []), (169, a_ald 1 1), (170, a_ild 2 5)]
def jcL_isStep_p3 : List (Nat × JA) := [(172, a_ild 2 4), (174, a_ild 2 6), (176, a_ild 1 3), (177, a_stk 2 (s_push (.int 8))), (179, a_stk 1 s_ishr), (180, a_stk 3 (s_push (.int 401))), (183, a_ins 157 2), (186, a_inv 66 4 6 []), (189, a_br 196 b_icmp_ne), (192, a_stk 1 (s_push (.int 1))), (193, a_goto 197), (196, a_stk 1 (s_push (.int 0))), (197, a_ret 0), (198, a_ald 1 0), (199, a_stk 1 (s_push (.int 2))), (200, a_inv 72 1 6 []), (203, a_br 210 b_if_ne), (206, a_stk 1 (s_push (.int 0))), (207, a_goto 219), (210, a_ild 1 3), (211, a_ald 1 0), (212, a_stk 1 (s_push (.int 2))), (213, a_inv 72 1 6 []), (216, a_ins 157 2), (219, a_ist 2 4), (221, a_ald 1 0), (222, a_stk 1 (s_push (.int 2))), (223, a_inv 72 1 6 []), (226, a_br 240 b_if_eq), (229, a_ald 1 0), (230, a_ild 2 4), (232, a_stk 1 (s_push (.int 5))), (233, a_inv 69 2 6 []), (236, a_stk 1 (s_push (.int 3))), (237, a_br 242 b_icmp_le), (240, a_stk 1 (s_push (.int 1))), (241, a_ret 0), (242, a_ald 1 0), (243, a_ild 2 4), (245, a_stk 1 (s_push (.int 2)))]
def jcL_isStep_p4 : List (Nat × JA) := [(246, a_inv 69 2 6 []), (249, a_stk 1 (s_push (.int 1))), (250, a_stk 1 s_iadd), (251, a_ild 1 3), (252, a_stk 1 (s_push (.int 4))), (253, a_stk 1 s_ishr), (254, a_stk 3 (s_push (.int 200))), (257, a_ins 157 2), (260, a_stk 1 s_iadd), (261, a_ist 2 5), (263, a_ald 1 0), (264, a_ild 2 4), (266, a_ild 2 5), (268, a_inv 67 2 6 []), (271, a_ald 1 1), (272, a_ild 2 4), (274, a_ild 2 5), (276, a_inv 67 2 6 []), (279, a_br 286 b_icmp_ne), (282, a_stk 1 (s_push (.int 1))), (283, a_goto 287), (286, a_stk 1 (s_push (.int 0))), (287, a_ret 0), (288, a_ald 1 0), (289, a_stk 1 (s_push (.int 1))), (290, a_ild 1 3), (291, a_stk 2 (s_push (.int 20))), (293, a_ins 157 2), (296, a_stk 1 s_iadd), (297, a_inv 68 1 6 []), (300, a_ald 1 1), (301, a_stk 1 (s_push (.int 1))), (302, a_ild 1 3), (303, a_stk 2 (s_push (.int 20))), (305, a_ins 157 2), (308, a_stk 1 s_iadd), (309, a_inv 68 1 6 []), (312, a_br 319 b_icmp_ne), (315, a_stk 1 (s_push (.int 1))), (316, a_goto 320)]
def jcL_isStep_p5 : List (Nat × JA) := [(319, a_stk 1 (s_push (.int 0))), (320, a_ret 0)]
def jcL_isStep : List (Nat × JA) := jcL_isStep_p1 ++ (jcL_isStep_p2 ++ (jcL_isStep_p3 ++ (jcL_isStep_p4 ++ (jcL_isStep_p5))))
def jcL_turned : List (Nat × JA) := [(0, a_ild 1 0), (1, a_br 8 b_if_ge), (4, a_ild 1 0), (5, a_goto 11), (8, a_ild 1 1), (9, a_ild 1 0), (10, a_stk 1 s_isub), (11, a_ret 0)]
def jcL_areAlike_p1 : List (Nat × JA) := [(0, a_ald 1 0), (1, a_inv 76 0 6 []), (4, a_ald 1 1), (5, a_inv 76 0 6 []), (8, a_br 27 b_icmp_ne), (11, a_ald 1 0), (12, a_inv 79 0 6 []), (15, a_ald 1 1), (16, a_inv 79 0 6 []), (19, a_stk 1 (s_dcmp .l)), (20, a_br 27 b_if_ne), (23, a_stk 1 (s_push (.int 1))), (24, a_goto 28), (27, a_stk 1 (s_push (.int 0))), (28, a_ist 1 2), (29, a_stk 1 (s_push (.int 0))), (30, a_ist 1 3), (31, a_ild 1 3), (32, a_stk 2 (s_push (.int 16))), (34, a_br 66 b_icmp_ge), (37, a_ild 1 2), (38, a_br 58 b_if_eq), (41, a_ald 1 0), (42, a_ild 1 3), (43, a_inv 72 1 6 []), (46, a_ald 1 1), (47, a_ild 1 3), (48, a_inv 72 1 6 []), (51, a_br 58 b_icmp_ne), (54, a_stk 1 (s_push (.int 1))), (55, a_goto 59), (58, a_stk 1 (s_push (.int 0))), (59, a_ist 1 2), (60, a_iinc 3 1), (63, a_goto 31), (66, a_stk 1 (s_push (.int 0))), (67, a_ist 1 3), (68, a_ild 1 3), (69, a_ald 1 0), (70, a_stk 1 (s_push (.int 2)))]
def jcL_areAlike_p2 : List (Nat × JA) := [(71, a_inv 72 1 6 []), (74, a_br 191 b_icmp_ge), (77, a_ild 1 2), (78, a_br 191 b_if_eq), (81, a_stk 1 (s_push (.int 0))), (82, a_ist 2 4), (84, a_ild 2 4), (86, a_stk 2 (s_push (.int 10))), (88, a_br 149 b_icmp_ge), (91, a_ild 2 4), (93, a_stk 2 (s_push (.int 6))), (95, a_br 112 b_icmp_ne), (98, a_ald 1 0), (99, a_ild 1 3), (100, a_stk 2 (s_push (.int 6))), (102, a_inv 69 2 6 []), (105, a_stk 1 (s_push (.int 3))), (106, a_ins 160 2), (109, a_goto 119), (112, a_ald 1 0), (113, a_ild 1 3), (114, a_ild 2 4), (116, a_inv 69 2 6 []), (119, a_ist 2 5), (121, a_ild 1 2), (122, a_br 141 b_if_eq), (125, a_ild 2 5), (127, a_ald 1 1), (128, a_ild 1 3), (129, a_ild 2 4), (131, a_inv 69 2 6 []), (134, a_br 141 b_icmp_ne), (137, a_stk 1 (s_push (.int 1))), (138, a_goto 142), (141, a_stk 1 (s_push (.int 0))), (142, a_ist 1 2), (143, a_iinc 4 1), (146, a_goto 84), (149, a_ild 1 2), (150, a_br 183 b_if_eq)]
def jcL_areAlike_p3 : List (Nat × JA) := [(153, a_ald 1 0), (154, a_ild 1 3), (155, a_inv 74 1 6 []), (158, a_ald 1 1), (159, a_ild 1 3), (160, a_inv 74 1 6 []), (163, a_br 183 b_icmp_ne), (166, a_ald 1 0), (167, a_ild 1 3), (168, a_inv 75 1 6 []), (171, a_ald 1 1), (172, a_ild 1 3), (173, a_inv 75 1 6 []), (176, a_br 183 b_icmp_ne), (179, a_stk 1 (s_push (.int 1))), (180, a_goto 184), (183, a_stk 1 (s_push (.int 0))), (184, a_ist 1 2), (185, a_iinc 3 1), (188, a_goto 68), (191, a_stk 1 (s_push (.int 0))), (192, a_ist 1 3), (193, a_ild 1 3), (194, a_stk 1 (s_push (.int 4))), (195, a_br 252 b_icmp_ge), (198, a_ild 1 2), (199, a_br 252 b_if_eq), (202, a_stk 1 (s_push (.int 0))), (203, a_ist 2 4), (205, a_ild 2 4), (207, a_stk 1 (s_push (.int 4))), (208, a_br 246 b_icmp_ge), (211, a_ild 1 2), (212, a_br 238 b_if_eq), (215, a_ald 1 0), (216, a_ild 1 3), (217, a_ild 2 4), (219, a_inv 70 2 6 []), (222, a_ald 1 1), (223, a_stk 1 (s_push (.int 3)))]
def jcL_areAlike_p4 : List (Nat × JA) := [(224, a_ild 1 3), (225, a_stk 1 s_isub), (226, a_ild 2 4), (228, a_inv 70 2 6 []), (231, a_br 238 b_icmp_ne), (234, a_stk 1 (s_push (.int 1))), (235, a_goto 239), (238, a_stk 1 (s_push (.int 0))), (239, a_ist 1 2), (240, a_iinc 4 1), (243, a_goto 205), (246, a_iinc 3 1), (249, a_goto 193), (252, a_stk 1 (s_push (.int 0))), (253, a_ist 1 3), (254, a_ild 1 3), (255, a_stk 1 (s_push (.int 3))), (256, a_br 313 b_icmp_ge), (259, a_ild 1 2), (260, a_br 313 b_if_eq), (263, a_stk 1 (s_push (.int 0))), (264, a_ist 2 4), (266, a_ild 2 4), (268, a_stk 1 (s_push (.int 5))), (269, a_br 307 b_icmp_ge), (272, a_ild 1 2), (273, a_br 299 b_if_eq), (276, a_ald 1 0), (277, a_ild 1 3), (278, a_ild 2 4), (280, a_inv 71 2 6 []), (283, a_ald 1 1), (284, a_stk 1 (s_push (.int 2))), (285, a_ild 1 3), (286, a_stk 1 s_isub), (287, a_ild 2 4), (289, a_inv 71 2 6 []), (292, a_br 299 b_icmp_ne), (295, a_stk 1 (s_push (.int 1))), (296, a_goto 300)]
def jcL_areAlike_p5 : List (Nat × JA) := [(299, a_stk 1 (s_push (.int 0))), (300, a_ist 1 2), (301, a_iinc 4 1), (304, a_goto 266), (307, a_iinc 3 1), (310, a_goto 254), (313, a_ild 1 2), (314, a_ret 0)]
def jcL_areAlike : List (Nat × JA) := jcL_areAlike_p1 ++ (jcL_areAlike_p2 ++ (jcL_areAlike_p3 ++ (jcL_areAlike_p4 ++ (jcL_areAlike_p5))))
def jcL_isSound_p1 : List (Nat × JA) := [(0, a_stk 1 (s_push (.int 0))), (1, a_ist 1 1), (2, a_stk 1 (s_push (.int 0))), (3, a_ist 1 2), (4, a_stk 1 (s_push (.int 0))), (5, a_ist 1 3), (6, a_stk 1 (s_push (.int 0))), (7, a_ist 2 4), (9, a_stk 2 (s_push (.int 6))), (11, a_ist 2 5), (13, a_ild 2 5), (15, a_stk 2 (s_push (.int 12))), (17, a_br 35 b_icmp_ge), (20, a_ild 1 1), (21, a_ald 1 0), (22, a_ild 2 5), (24, a_inv 72 1 6 []), (27, a_stk 1 s_iadd), (28, a_ist 1 1), (29, a_iinc 5 1), (32, a_goto 13), (35, a_ild 1 1), (36, a_ald 1 0), (37, a_stk 1 (s_push (.int 2))), (38, a_inv 72 1 6 []), (41, a_br 48 b_icmp_ne), (44, a_stk 1 (s_push (.int 1))), (45, a_goto 49), (48, a_stk 1 (s_push (.int 0))), (49, a_ist 2 5), (51, a_stk 1 (s_push (.int 0))), (52, a_ist 2 6), (54, a_ild 2 6), (56, a_stk 1 (s_push (.int 4))), (57, a_br 191 b_icmp_ge), (60, a_ald 1 0), (61, a_ild 2 6), (63, a_stk 1 (s_push (.int 1))), (64, a_inv 70 2 6 []), (67, a_ist 2 7)]
def jcL_isSound_p2 : List (Nat × JA) := [(69, a_ild 1 3), (70, a_ald 1 0), (71, a_ild 2 6), (73, a_stk 1 (s_push (.int 3))), (74, a_inv 70 2 6 []), (77, a_stk 1 s_iadd), (78, a_ist 1 3), (79, a_ild 2 5), (81, a_br 144 b_if_eq), (84, a_ild 2 7), (86, a_br 119 b_if_lt), (89, a_ald 1 0), (90, a_ild 2 7), (92, a_stk 2 (s_push (.int 6))), (94, a_inv 69 2 6 []), (97, a_ild 2 6), (99, a_br 144 b_icmp_ne), (102, a_ald 1 0), (103, a_ild 2 7), (105, a_stk 1 (s_push (.int 0))), (106, a_inv 69 2 6 []), (109, a_ald 1 0), (110, a_ild 2 6), (112, a_stk 1 (s_push (.int 0))), (113, a_inv 70 2 6 []), (116, a_br 144 b_icmp_gt), (119, a_ald 1 0), (120, a_ild 2 6), (122, a_stk 1 (s_push (.int 2))), (123, a_inv 70 2 6 []), (126, a_br 140 b_if_eq), (129, a_ald 1 0), (130, a_ild 2 7), (132, a_stk 1 (s_push (.int 5))), (133, a_inv 69 2 6 []), (136, a_stk 1 (s_push (.int 4))), (137, a_br 144 b_icmp_ne), (140, a_stk 1 (s_push (.int 1))), (141, a_goto 145), (144, a_stk 1 (s_push (.int 0)))]
def jcL_isSound_p3 : List (Nat × JA) := [(145, a_ist 2 5), (147, a_ild 2 5), (149, a_br 182 b_if_eq), (152, a_ild 2 6), (154, a_br 178 b_if_eq), (157, a_ald 1 0), (158, a_ild 2 6), (160, a_stk 1 (s_push (.int 2))), (161, a_inv 70 2 6 []), (164, a_ald 1 0), (165, a_ild 2 6), (167, a_stk 1 (s_push (.int 1))), (168, a_stk 1 s_isub), (169, a_stk 1 (s_push (.int 2))), (170, a_inv 70 2 6 []), (173, a_stk 1 s_iadd), (174, a_stk 1 (s_push (.int 2))), (175, a_br 182 b_icmp_ge), (178, a_stk 1 (s_push (.int 1))), (179, a_goto 183), (182, a_stk 1 (s_push (.int 0))), (183, a_ist 2 5), (185, a_iinc 6 1), (188, a_goto 54), (191, a_stk 1 (s_push (.int 0))), (192, a_ist 2 6), (194, a_ild 2 6), (196, a_ald 1 0), (197, a_stk 1 (s_push (.int 2))), (198, a_inv 72 1 6 []), (201, a_br 281 b_icmp_ge), (204, a_ild 1 2), (205, a_ald 1 0), (206, a_ild 2 6), (208, a_stk 2 (s_push (.int 8))), (210, a_inv 69 2 6 []), (213, a_stk 1 s_iadd), (214, a_ist 1 2), (215, a_ild 2 4), (217, a_ald 1 0)]
def jcL_isSound_p4 : List (Nat × JA) := [(218, a_ild 2 6), (220, a_stk 2 (s_push (.int 9))), (222, a_inv 69 2 6 []), (225, a_stk 1 s_iadd), (226, a_ist 2 4), (228, a_ild 2 5), (230, a_br 272 b_if_eq), (233, a_ald 1 0), (234, a_ild 2 6), (236, a_stk 2 (s_push (.int 7))), (238, a_inv 69 2 6 []), (241, a_br 248 b_if_lt), (244, a_stk 1 (s_push (.int 1))), (245, a_goto 249), (248, a_stk 1 (s_push (.int 0))), (249, a_ald 1 0), (250, a_ild 2 6), (252, a_stk 1 (s_push (.int 5))), (253, a_inv 69 2 6 []), (256, a_stk 1 (s_push (.int 3))), (257, a_br 264 b_icmp_le), (260, a_stk 1 (s_push (.int 1))), (261, a_goto 265), (264, a_stk 1 (s_push (.int 0))), (265, a_br 272 b_icmp_ne), (268, a_stk 1 (s_push (.int 1))), (269, a_goto 273), (272, a_stk 1 (s_push (.int 0))), (273, a_ist 2 5), (275, a_iinc 6 1), (278, a_goto 194), (281, a_stk 1 (s_push (.int 0))), (282, a_ist 2 6), (284, a_ild 2 6), (286, a_stk 1 (s_push (.int 3))), (287, a_br 362 b_icmp_ge), (290, a_ald 1 0), (291, a_ild 2 6), (293, a_stk 1 (s_push (.int 1))), (294, a_inv 71 2 6 [])]
def jcL_isSound_p5 : List (Nat × JA) := [(297, a_ist 2 7), (299, a_ild 2 5), (301, a_br 353 b_if_eq), (304, a_ild 2 7), (306, a_br 322 b_if_ge), (309, a_ald 1 0), (310, a_ild 2 6), (312, a_stk 1 (s_push (.int 2))), (313, a_inv 71 2 6 []), (316, a_br 353 b_if_ne), (319, a_goto 349), (322, a_ald 1 0), (323, a_ild 2 6), (325, a_stk 1 (s_push (.int 2))), (326, a_inv 71 2 6 []), (329, a_br 353 b_if_le), (332, a_ald 1 0), (333, a_ild 2 6), (335, a_stk 1 (s_push (.int 0))), (336, a_inv 71 2 6 []), (339, a_ald 1 0), (340, a_ild 2 7), (342, a_stk 1 (s_push (.int 1))), (343, a_inv 69 2 6 []), (346, a_br 353 b_icmp_lt), (349, a_stk 1 (s_push (.int 1))), (350, a_goto 354), (353, a_stk 1 (s_push (.int 0))), (354, a_ist 2 5), (356, a_iinc 6 1), (359, a_goto 284), (362, a_ild 2 5), (364, a_br 387 b_if_eq), (367, a_ild 1 2), (368, a_ild 1 3), (369, a_br 387 b_icmp_ne), (372, a_ild 2 4), (374, a_ald 1 0), (375, a_stk 2 (s_push (.int 14))), (377, a_inv 72 1 6 [])]
def jcL_isSound_p6 : List (Nat × JA) := [(380, a_br 387 b_icmp_ne), (383, a_stk 1 (s_push (.int 1))), (384, a_goto 388), (387, a_stk 1 (s_push (.int 0))), (388, a_ret 0)]
def jcL_isSound : List (Nat × JA) := jcL_isSound_p1 ++ (jcL_isSound_p2 ++ (jcL_isSound_p3 ++ (jcL_isSound_p4 ++ (jcL_isSound_p5 ++ (jcL_isSound_p6)))))
def jcL_law_p1 (L : Nat) (xs : Nat → Int32) : List (Nat × JA) := [(0, a_new 6 5 [.null, .null, .null, .int 0, .null]), (3, a_stk 1 s_dup), (4, a_ini 61 0), (7, a_ast 1 1), (8, a_new 6 5 [.null, .null, .null, .int 0, .null]), (11, a_stk 1 s_dup), (12, a_ini 61 0), (15, a_ast 1 2), (16, a_ald 1 1), (17, a_ald 1 2), (18, a_ald 1 0), (19, a_stk 1 (s_push (.int 0))), (20, a_cell L xs), (23, a_ins 158 3), (26, a_ist 1 3), (27, a_stk 1 (s_push (.int 1))), (28, a_ist 2 4), (30, a_ild 2 4), (32, a_stk 2 (s_push (.int 42))), (34, a_br 82 b_icmp_ge), (37, a_ild 1 3), (38, a_br 82 b_if_eq), (41, a_ald 1 1), (42, a_ald 1 2), (43, a_ald 1 0), (44, a_ild 2 4), (46, a_cell L xs), (49, a_ins 159 3), (52, a_br 74 b_if_eq), (55, a_ald 1 1), (56, a_ald 1 2), (57, a_ins 161 2), (60, a_br 74 b_if_eq), (63, a_ald 1 1), (64, a_ins 162 1), (67, a_br 74 b_if_eq), (70, a_stk 1 (s_push (.int 1))), (71, a_goto 75), (74, a_stk 1 (s_push (.int 0))), (75, a_ist 1 3)]
def jcL_law_p2 (L : Nat) (xs : Nat → Int32) : List (Nat × JA) := [(76, a_iinc 4 1), (79, a_goto 30), (82, a_ald 1 1), (83, a_stk 1 (s_push (.int 3))), (84, a_inv 72 1 6 []), (87, a_ist 2 4), (89, a_ald 1 1), (90, a_stk 2 (s_push (.int 11))), (92, a_inv 72 1 6 []), (95, a_ist 2 5), (97, a_ald 1 1), (98, a_inv 76 0 6 []), (101, a_ist 2 6), (103, a_ild 1 3), (104, a_br 196 b_if_eq), (107, a_ald 1 1), (108, a_stk 2 (s_push (.int 40))), (110, a_inv 68 1 6 []), (113, a_br 196 b_if_lt), (116, a_ald 1 1), (117, a_stk 1 (s_push (.int 3))), (118, a_inv 72 1 6 []), (121, a_ild 2 4), (123, a_stk 2 (s_push (.int 40))), (125, a_stk 1 s_iadd), (126, a_br 196 b_icmp_ne), (129, a_ild 2 6), (131, a_br 155 b_if_lt), (134, a_ild 2 6), (136, a_stk 2 (s_push (.int 40))), (138, a_br 155 b_icmp_gt), (141, a_ald 1 1), (142, a_stk 2 (s_push (.int 11))), (144, a_inv 72 1 6 []), (147, a_ald 1 1), (148, a_stk 1 (s_push (.int 2))), (149, a_inv 72 1 6 []), (152, a_br 196 b_icmp_ne), (155, a_ald 1 1), (156, a_inv 83 0 6 [])]
def jcL_law_p3 (L : Nat) (xs : Nat → Int32) : List (Nat × JA) := [(159, a_br 196 b_if_lt), (162, a_ald 1 1), (163, a_stk 1 (s_push (.int 3))), (164, a_inv 72 1 6 []), (167, a_ild 2 4), (169, a_br 196 b_icmp_ne), (172, a_ald 1 1), (173, a_stk 2 (s_push (.int 11))), (175, a_inv 72 1 6 []), (178, a_ild 2 5), (180, a_br 196 b_icmp_ne), (183, a_ald 1 1), (184, a_inv 76 0 6 []), (187, a_ild 2 6), (189, a_br 196 b_icmp_ne), (192, a_stk 1 (s_push (.int 1))), (193, a_goto 197), (196, a_stk 1 (s_push (.int 0))), (197, a_ret 0)]
def jcL_law (L : Nat) (xs : Nat → Int32) : List (Nat × JA) := jcL_law_p1 L xs ++ (jcL_law_p2 L xs ++ (jcL_law_p3 L xs))
def mtabL : List (JM5 × List (Nat × JA)) := [(mX0_init, jcX0_init), (mX0_tell, jcX0_tell), (mX0_copyFrom, jcX0_copyFrom), (mX0_isOnStandOrBay, jcX0_isOnStandOrBay), (mX0_takeBuses, jcX0_takeBuses), (mX0_answer, jcX0_answer), (mX1_init, jcX1_init), (mX1_build, jcX1_build), (mX1_restart, jcX1_restart), (mX1_copyFrom, jcX1_copyFrom), (mX1_hasStand, jcX1_hasStand), (mX1_hasTug, jcX1_hasTug), (mX1_hasAircraft, jcX1_hasAircraft), (mX1_add, jcX1_add), (mX0_init, []), (mX1_passSome, jcX1_passSome), (mX1_quietMinutes, jcX1_quietMinutes), (mX1_workTugs, jcX1_workTugs), (mX1_finish, jcX1_finish), (mX1_receive, jcX1_receive), (mX1_pushBack, jcX1_pushBack), (mX1_turn, jcX1_turn), (mX1_nextToLeave, jcX1_nextToLeave), (mX1_beginPush, jcX1_beginPush), (mX1_tow, jcX1_tow), (mX1_countMinutes, jcX1_countMinutes), (mX1_freeStandFor, jcX1_freeStandFor), (mX1_freeTugFor, jcX1_freeTugFor), (mX1_reason, jcX1_reason), (mX1_isCurfew, jcX1_isCurfew), (mX1_isPushedFrom, jcX1_isPushedFrom), (mX1_passUntilAllGone, jcX1_passUntilAllGone), (mX1_areAllGone, jcX1_areAllGone), (mX1_countAt, jcX1_countAt), (mX1_sumOfDelays, jcX1_sumOfDelays), (mX1_greatestDelay, jcX1_greatestDelay), (mX1_sumOfBuses, jcX1_sumOfBuses), (mX1_standAnswer, jcX1_standAnswer), (mX1_answer, jcX1_answer), (mX2_init, jcX2_init), (mX2_put, jcX2_put), (mX2_kept, jcX2_kept), (mX0_init, []), (mX2_copyFrom, jcX2_copyFrom), (mX3_init, jcX3_init), (mX3_restart, jcX3_restart), (mX3_copyFrom, jcX3_copyFrom), (mX4_init, jcX4_init), (mX0_init, []), (mX0_init, []), (mX0_init, []), (mX0_init, []), (mX0_init, []), (mX0_init, []), (mX0_init, []), (mX0_init, []), (mX5_init, jcX5_init), (mX5_restart, jcX5_restart), (mX5_copyFrom, jcX5_copyFrom), (mX5_take, jcX5_take), (mX5_answer, jcX5_answer), (mX6_init, jcX6_init), (mX6_begin, jcX6_begin), (mX6_setSpan, jcX6_setSpan), (mX6_setStrength, jcX6_setStrength), (mX6_setCurfew, jcX6_setCurfew), (mX6_expect, jcX6_expect), (mX6_setLeaves, jcX6_setLeaves), (mX6_pass, jcX6_pass), (mX6_aircraft, jcX6_aircraft), (mX6_stand, jcX6_stand), (mX6_tug, jcX6_tug), (mX6_value, jcX6_value), (mX0_init, []), (mX6_why, jcX6_why), (mX6_delayOf, jcX6_delayOf), (mX6_minutesToAll, jcX6_minutesToAll), (mX0_init, []), (mX0_init, []), (mX6_used, jcX6_used), (mX0_init, []), (mX0_init, []), (mX0_init, []), (mX6_undo, jcX6_undo), (mX0_init, []), (mX6_isOutside, jcX6_isOutside), (mX6_isKind, jcX6_isKind), (mX6_save, jcX6_save), (mX6_dropOldest, jcX6_dropOldest), (mX0_init, []), (mX0_init, []), (mX0_init, []), (mX0_init, []), (mX0_init, []), (mX0_init, []), (mX0_init, []), (mX0_init, []), (mX0_init, []), (mX0_init, []), (mX0_init, []), (mX0_init, []), (mX0_init, []), (mX0_init, []), (mX0_init, []), (mX0_init, []), (mX0_init, []), (mX0_init, []), (mX0_init, []), (mX0_init, []), (mX0_init, []), (mX0_init, []), (mX0_init, []), (mX0_init, []), (mX0_init, []), (mX0_init, []), (mX0_init, []), (mX0_init, []), (mX0_init, []), (mX0_init, []), (mX0_init, []), (mX0_init, []), (mX0_init, []), (mX0_init, []), (mX0_init, []), (mX0_init, []), (mX0_init, []), (mX0_init, []), (mX0_init, []), (mX0_init, []), (mX0_init, []), (mX0_init, []), (mX0_init, []), (mX0_init, []), (mX0_init, []), (mX0_init, []), (mX0_init, []), (mX0_init, []), (mX0_init, []), (mX0_init, []), (mX0_init, []), (mX0_init, []), (mX0_init, []), (mX0_init, []), (mX0_init, []), (mX0_init, []), (mX0_init, []), (mX0_init, []), (mX0_init, []), (mX0_init, []), (mX0_init, []), (mX0_init, []), (mX0_init, []), (mX0_init, []), (mX0_init, []), (mX0_init, []), (mX0_init, []), (mX0_init, []), (mL_up, jcL_up), (mL_fields, jcL_fields), (mL_isStep, jcL_isStep), (mL_turned, jcL_turned), (mL_areAlike, jcL_areAlike), (mL_isSound, jcL_isSound)]
def mdf : JM5 × List (Nat × JA) := (mX0_init, [])
def mtab (μ : Nat) : JM5 := (mtabL.getD μ mdf).1
def mcode (μ : Nat) : List (Nat × JA) := (mtabL.getD μ mdf).2
end
section
/-! each action of a table is sound -/
set_option maxRecDepth 20000 in
theorem okX0_init : ∀ q ∈ jcX0_init, JOk mtab cX0_init RX0 ("<init>", []) 1 none q.1 q.2 := by
  unfold jcX0_init
  exact List.forall_mem_cons.mpr ⟨k_ald_n (show decode cX0_init 0 = .ok (.aload_n 0, 1) by decide +kernel) rfl, List.forall_mem_cons.mpr ⟨k_oini (show decode cX0_init 1 = .ok (.invokespecial 3, 3) by decide +kernel) (gw1 108 rfl rfl) (gw1 22 rfl rfl) (gw1 23 (by decide +kernel) rfl), List.forall_mem_cons.mpr ⟨k_vret (show decode cX0_init 4 = .ok (.return_, 1) by decide +kernel), fun _ h => absurd h List.not_mem_nil⟩⟩⟩
set_option maxRecDepth 20000 in
theorem okX0_tell : ∀ q ∈ jcX0_tell, JOk mtab cX0_tell RX0 ("tell", []) 5 none q.1 q.2 := by
  unfold jcX0_tell
  exact List.forall_mem_cons.mpr ⟨k_ald_n (show decode cX0_tell 0 = .ok (.aload_n 0, 1) by decide +kernel) rfl, List.forall_mem_cons.mpr ⟨k_ild_n (show decode cX0_tell 1 = .ok (.iload_n 1, 1) by decide +kernel) rfl, List.forall_mem_cons.mpr ⟨k_bipush (show decode cX0_tell 2 = .ok (.bipush 10, 2) by decide +kernel) (by decide +kernel), List.forall_mem_cons.mpr ⟨k_idiv (show decode cX0_tell 4 = .ok (.idiv, 1) by decide +kernel), List.forall_mem_cons.mpr ⟨k_puti (C := RX0) (T := TX0) (N := 10) (show decode cX0_tell 5 = .ok (.putfield 9, 3) by decide +kernel) rfl inX0 tyX0_ok nmX0 (by decide) rfl rfl (gw1 109 rfl rfl) (by decide), List.forall_mem_cons.mpr ⟨k_ald_n (show decode cX0_tell 8 = .ok (.aload_n 0, 1) by decide +kernel) rfl, List.forall_mem_cons.mpr ⟨k_ild_n (show decode cX0_tell 9 = .ok (.iload_n 1, 1) by decide +kernel) rfl, List.forall_mem_cons.mpr ⟨k_bipush (show decode cX0_tell 10 = .ok (.bipush 10, 2) by decide +kernel) (by decide +kernel), List.forall_mem_cons.mpr ⟨k_irem (show decode cX0_tell 12 = .ok (.irem, 1) by decide +kernel), List.forall_mem_cons.mpr ⟨k_puti (C := RX0) (T := TX0) (N := 10) (show decode cX0_tell 13 = .ok (.putfield 15, 3) by decide +kernel) rfl inX0 tyX0_ok nmX0 (by decide) rfl rfl (gw1 111 rfl rfl) (by decide), List.forall_mem_cons.mpr ⟨k_ald_n (show decode cX0_tell 16 = .ok (.aload_n 0, 1) by decide +kernel) rfl, List.forall_mem_cons.mpr ⟨k_ild_n (show decode cX0_tell 17 = .ok (.iload_n 2, 1) by decide +kernel) rfl, List.forall_mem_cons.mpr ⟨k_puti (C := RX0) (T := TX0) (N := 10) (show decode cX0_tell 18 = .ok (.putfield 18, 3) by decide +kernel) rfl inX0 tyX0_ok nmX0 (by decide) rfl rfl (gw1 113 rfl rfl) (by decide), List.forall_mem_cons.mpr ⟨k_ald_n (show decode cX0_tell 21 = .ok (.aload_n 0, 1) by decide +kernel) rfl, List.forall_mem_cons.mpr ⟨k_ild_n (show decode cX0_tell 22 = .ok (.iload_n 3, 1) by decide +kernel) rfl, List.forall_mem_cons.mpr ⟨k_puti (C := RX0) (T := TX0) (N := 10) (show decode cX0_tell 23 = .ok (.putfield 21, 3) by decide +kernel) rfl inX0 tyX0_ok nmX0 (by decide) rfl rfl (gw1 116 rfl rfl) (by decide), List.forall_mem_cons.mpr ⟨k_ald_n (show decode cX0_tell 26 = .ok (.aload_n 0, 1) by decide +kernel) rfl, List.forall_mem_cons.mpr ⟨k_ild (show decode cX0_tell 27 = .ok (.iload 4, 2) by decide +kernel), List.forall_mem_cons.mpr ⟨k_puti (C := RX0) (T := TX0) (N := 10) (show decode cX0_tell 29 = .ok (.putfield 24, 3) by decide +kernel) rfl inX0 tyX0_ok nmX0 (by decide) rfl rfl (gw1 119 rfl rfl) (by decide), List.forall_mem_cons.mpr ⟨k_ald_n (show decode cX0_tell 32 = .ok (.aload_n 0, 1) by decide +kernel) rfl, List.forall_mem_cons.mpr ⟨k_iconst (show decode cX0_tell 33 = .ok (.iconst 0, 1) by decide +kernel) (by decide +kernel), List.forall_mem_cons.mpr ⟨k_puti (C := RX0) (T := TX0) (N := 10) (show decode cX0_tell 34 = .ok (.putfield 27, 3) by decide +kernel) rfl inX0 tyX0_ok nmX0 (by decide) rfl rfl (gw1 120 rfl rfl) (by decide), List.forall_mem_cons.mpr ⟨k_ald_n (show decode cX0_tell 37 = .ok (.aload_n 0, 1) by decide +kernel) rfl, List.forall_mem_cons.mpr ⟨k_iconst (show decode cX0_tell 38 = .ok (.iconst (-1), 1) by decide +kernel) (by decide +kernel), List.forall_mem_cons.mpr ⟨k_puti (C := RX0) (T := TX0) (N := 10) (show decode cX0_tell 39 = .ok (.putfield 30, 3) by decide +kernel) rfl inX0 tyX0_ok nmX0 (by decide) rfl rfl (gw1 123 rfl rfl) (by decide), List.forall_mem_cons.mpr ⟨k_ald_n (show decode cX0_tell 42 = .ok (.aload_n 0, 1) by decide +kernel) rfl, List.forall_mem_cons.mpr ⟨k_iconst (show decode cX0_tell 43 = .ok (.iconst (-1), 1) by decide +kernel) (by decide +kernel), List.forall_mem_cons.mpr ⟨k_puti (C := RX0) (T := TX0) (N := 10) (show decode cX0_tell 44 = .ok (.putfield 33, 3) by decide +kernel) rfl inX0 tyX0_ok nmX0 (by decide) rfl rfl (gw1 125 rfl rfl) (by decide), List.forall_mem_cons.mpr ⟨k_ald_n (show decode cX0_tell 47 = .ok (.aload_n 0, 1) by decide +kernel) rfl, List.forall_mem_cons.mpr ⟨k_iconst (show decode cX0_tell 48 = .ok (.iconst 0, 1) by decide +kernel) (by decide +kernel), List.forall_mem_cons.mpr ⟨k_puti (C := RX0) (T := TX0) (N := 10) (show decode cX0_tell 49 = .ok (.putfield 36, 3) by decide +kernel) rfl inX0 tyX0_ok nmX0 (by decide) rfl rfl (gw1 128 rfl rfl) (by decide), List.forall_mem_cons.mpr ⟨k_ald_n (show decode cX0_tell 52 = .ok (.aload_n 0, 1) by decide +kernel) rfl, List.forall_mem_cons.mpr ⟨k_iconst (show decode cX0_tell 53 = .ok (.iconst 0, 1) by decide +kernel) (by decide +kernel), List.forall_mem_cons.mpr ⟨k_puti (C := RX0) (T := TX0) (N := 10) (show decode cX0_tell 54 = .ok (.putfield 39, 3) by decide +kernel) rfl inX0 tyX0_ok nmX0 (by decide) rfl rfl (gw1 130 rfl rfl) (by decide), List.forall_mem_cons.mpr ⟨k_vret (show decode cX0_tell 57 = .ok (.return_, 1) by decide +kernel), fun _ h => absurd h List.not_mem_nil⟩⟩⟩⟩⟩⟩⟩⟩⟩⟩⟩⟩⟩⟩⟩⟩⟩⟩⟩⟩⟩⟩⟩⟩⟩⟩⟩⟩⟩⟩⟩⟩⟩⟩⟩
set_option maxRecDepth 20000 in
theorem okX0_copyFrom : ∀ q ∈ jcX0_copyFrom, JOk mtab cX0_copyFrom RX0 ("copyFrom", []) 2 none q.1 q.2 := by
  unfold jcX0_copyFrom
  exact List.forall_mem_cons.mpr ⟨k_ald_n (show decode cX0_copyFrom 0 = .ok (.aload_n 0, 1) by decide +kernel) rfl, List.forall_mem_cons.mpr ⟨k_ald_n (show decode cX0_copyFrom 1 = .ok (.aload_n 1, 1) by decide +kernel) rfl, List.forall_mem_cons.mpr ⟨k_getf (C := RX0) (T := TX0) (N := 10) (show decode cX0_copyFrom 2 = .ok (.getfield 9, 3) by decide +kernel) rfl inX0 (by decide) (gw1 109 rfl rfl) (by decide), List.forall_mem_cons.mpr ⟨k_puti (C := RX0) (T := TX0) (N := 10) (show decode cX0_copyFrom 5 = .ok (.putfield 9, 3) by decide +kernel) rfl inX0 tyX0_ok nmX0 (by decide) rfl rfl (gw1 109 rfl rfl) (by decide), List.forall_mem_cons.mpr ⟨k_ald_n (show decode cX0_copyFrom 8 = .ok (.aload_n 0, 1) by decide +kernel) rfl, List.forall_mem_cons.mpr ⟨k_ald_n (show decode cX0_copyFrom 9 = .ok (.aload_n 1, 1) by decide +kernel) rfl, List.forall_mem_cons.mpr ⟨k_getf (C := RX0) (T := TX0) (N := 10) (show decode cX0_copyFrom 10 = .ok (.getfield 15, 3) by decide +kernel) rfl inX0 (by decide) (gw1 111 rfl rfl) (by decide), List.forall_mem_cons.mpr ⟨k_puti (C := RX0) (T := TX0) (N := 10) (show decode cX0_copyFrom 13 = .ok (.putfield 15, 3) by decide +kernel) rfl inX0 tyX0_ok nmX0 (by decide) rfl rfl (gw1 111 rfl rfl) (by decide), List.forall_mem_cons.mpr ⟨k_ald_n (show decode cX0_copyFrom 16 = .ok (.aload_n 0, 1) by decide +kernel) rfl, List.forall_mem_cons.mpr ⟨k_ald_n (show decode cX0_copyFrom 17 = .ok (.aload_n 1, 1) by decide +kernel) rfl, List.forall_mem_cons.mpr ⟨k_getf (C := RX0) (T := TX0) (N := 10) (show decode cX0_copyFrom 18 = .ok (.getfield 18, 3) by decide +kernel) rfl inX0 (by decide) (gw1 113 rfl rfl) (by decide), List.forall_mem_cons.mpr ⟨k_puti (C := RX0) (T := TX0) (N := 10) (show decode cX0_copyFrom 21 = .ok (.putfield 18, 3) by decide +kernel) rfl inX0 tyX0_ok nmX0 (by decide) rfl rfl (gw1 113 rfl rfl) (by decide), List.forall_mem_cons.mpr ⟨k_ald_n (show decode cX0_copyFrom 24 = .ok (.aload_n 0, 1) by decide +kernel) rfl, List.forall_mem_cons.mpr ⟨k_ald_n (show decode cX0_copyFrom 25 = .ok (.aload_n 1, 1) by decide +kernel) rfl, List.forall_mem_cons.mpr ⟨k_getf (C := RX0) (T := TX0) (N := 10) (show decode cX0_copyFrom 26 = .ok (.getfield 21, 3) by decide +kernel) rfl inX0 (by decide) (gw1 116 rfl rfl) (by decide), List.forall_mem_cons.mpr ⟨k_puti (C := RX0) (T := TX0) (N := 10) (show decode cX0_copyFrom 29 = .ok (.putfield 21, 3) by decide +kernel) rfl inX0 tyX0_ok nmX0 (by decide) rfl rfl (gw1 116 rfl rfl) (by decide), List.forall_mem_cons.mpr ⟨k_ald_n (show decode cX0_copyFrom 32 = .ok (.aload_n 0, 1) by decide +kernel) rfl, List.forall_mem_cons.mpr ⟨k_ald_n (show decode cX0_copyFrom 33 = .ok (.aload_n 1, 1) by decide +kernel) rfl, List.forall_mem_cons.mpr ⟨k_getf (C := RX0) (T := TX0) (N := 10) (show decode cX0_copyFrom 34 = .ok (.getfield 24, 3) by decide +kernel) rfl inX0 (by decide) (gw1 119 rfl rfl) (by decide), List.forall_mem_cons.mpr ⟨k_puti (C := RX0) (T := TX0) (N := 10) (show decode cX0_copyFrom 37 = .ok (.putfield 24, 3) by decide +kernel) rfl inX0 tyX0_ok nmX0 (by decide) rfl rfl (gw1 119 rfl rfl) (by decide), List.forall_mem_cons.mpr ⟨k_ald_n (show decode cX0_copyFrom 40 = .ok (.aload_n 0, 1) by decide +kernel) rfl, List.forall_mem_cons.mpr ⟨k_ald_n (show decode cX0_copyFrom 41 = .ok (.aload_n 1, 1) by decide +kernel) rfl, List.forall_mem_cons.mpr ⟨k_getf (C := RX0) (T := TX0) (N := 10) (show decode cX0_copyFrom 42 = .ok (.getfield 27, 3) by decide +kernel) rfl inX0 (by decide) (gw1 120 rfl rfl) (by decide), List.forall_mem_cons.mpr ⟨k_puti (C := RX0) (T := TX0) (N := 10) (show decode cX0_copyFrom 45 = .ok (.putfield 27, 3) by decide +kernel) rfl inX0 tyX0_ok nmX0 (by decide) rfl rfl (gw1 120 rfl rfl) (by decide), List.forall_mem_cons.mpr ⟨k_ald_n (show decode cX0_copyFrom 48 = .ok (.aload_n 0, 1) by decide +kernel) rfl, List.forall_mem_cons.mpr ⟨k_ald_n (show decode cX0_copyFrom 49 = .ok (.aload_n 1, 1) by decide +kernel) rfl, List.forall_mem_cons.mpr ⟨k_getf (C := RX0) (T := TX0) (N := 10) (show decode cX0_copyFrom 50 = .ok (.getfield 30, 3) by decide +kernel) rfl inX0 (by decide) (gw1 123 rfl rfl) (by decide), List.forall_mem_cons.mpr ⟨k_puti (C := RX0) (T := TX0) (N := 10) (show decode cX0_copyFrom 53 = .ok (.putfield 30, 3) by decide +kernel) rfl inX0 tyX0_ok nmX0 (by decide) rfl rfl (gw1 123 rfl rfl) (by decide), List.forall_mem_cons.mpr ⟨k_ald_n (show decode cX0_copyFrom 56 = .ok (.aload_n 0, 1) by decide +kernel) rfl, List.forall_mem_cons.mpr ⟨k_ald_n (show decode cX0_copyFrom 57 = .ok (.aload_n 1, 1) by decide +kernel) rfl, List.forall_mem_cons.mpr ⟨k_getf (C := RX0) (T := TX0) (N := 10) (show decode cX0_copyFrom 58 = .ok (.getfield 33, 3) by decide +kernel) rfl inX0 (by decide) (gw1 125 rfl rfl) (by decide), List.forall_mem_cons.mpr ⟨k_puti (C := RX0) (T := TX0) (N := 10) (show decode cX0_copyFrom 61 = .ok (.putfield 33, 3) by decide +kernel) rfl inX0 tyX0_ok nmX0 (by decide) rfl rfl (gw1 125 rfl rfl) (by decide), List.forall_mem_cons.mpr ⟨k_ald_n (show decode cX0_copyFrom 64 = .ok (.aload_n 0, 1) by decide +kernel) rfl, List.forall_mem_cons.mpr ⟨k_ald_n (show decode cX0_copyFrom 65 = .ok (.aload_n 1, 1) by decide +kernel) rfl, List.forall_mem_cons.mpr ⟨k_getf (C := RX0) (T := TX0) (N := 10) (show decode cX0_copyFrom 66 = .ok (.getfield 36, 3) by decide +kernel) rfl inX0 (by decide) (gw1 128 rfl rfl) (by decide), List.forall_mem_cons.mpr ⟨k_puti (C := RX0) (T := TX0) (N := 10) (show decode cX0_copyFrom 69 = .ok (.putfield 36, 3) by decide +kernel) rfl inX0 tyX0_ok nmX0 (by decide) rfl rfl (gw1 128 rfl rfl) (by decide), List.forall_mem_cons.mpr ⟨k_ald_n (show decode cX0_copyFrom 72 = .ok (.aload_n 0, 1) by decide +kernel) rfl, List.forall_mem_cons.mpr ⟨k_ald_n (show decode cX0_copyFrom 73 = .ok (.aload_n 1, 1) by decide +kernel) rfl, List.forall_mem_cons.mpr ⟨k_getf (C := RX0) (T := TX0) (N := 10) (show decode cX0_copyFrom 74 = .ok (.getfield 39, 3) by decide +kernel) rfl inX0 (by decide) (gw1 130 rfl rfl) (by decide), List.forall_mem_cons.mpr ⟨k_puti (C := RX0) (T := TX0) (N := 10) (show decode cX0_copyFrom 77 = .ok (.putfield 39, 3) by decide +kernel) rfl inX0 tyX0_ok nmX0 (by decide) rfl rfl (gw1 130 rfl rfl) (by decide), List.forall_mem_cons.mpr ⟨k_vret (show decode cX0_copyFrom 80 = .ok (.return_, 1) by decide +kernel), fun _ h => absurd h List.not_mem_nil⟩⟩⟩⟩⟩⟩⟩⟩⟩⟩⟩⟩⟩⟩⟩⟩⟩⟩⟩⟩⟩⟩⟩⟩⟩⟩⟩⟩⟩⟩⟩⟩⟩⟩⟩⟩⟩⟩⟩⟩⟩
set_option maxRecDepth 20000 in
theorem okX0_isOnStandOrBay : ∀ q ∈ jcX0_isOnStandOrBay, JOk mtab cX0_isOnStandOrBay RX0 ("isOnStandOrBay", []) 1 none q.1 q.2 := by
  unfold jcX0_isOnStandOrBay
  exact List.forall_mem_cons.mpr ⟨k_ald_n (show decode cX0_isOnStandOrBay 0 = .ok (.aload_n 0, 1) by decide +kernel) rfl, List.forall_mem_cons.mpr ⟨k_getf (C := RX0) (T := TX0) (N := 10) (show decode cX0_isOnStandOrBay 1 = .ok (.getfield 27, 3) by decide +kernel) rfl inX0 (by decide) (gw1 120 rfl rfl) (by decide), List.forall_mem_cons.mpr ⟨k_iconst (show decode cX0_isOnStandOrBay 4 = .ok (.iconst 1, 1) by decide +kernel) (by decide +kernel), List.forall_mem_cons.mpr ⟨k_icmp_eq (show decode cX0_isOnStandOrBay 5 = .ok (.if_icmp .eq 11, 3) by decide +kernel) (by decide), List.forall_mem_cons.mpr ⟨k_ald_n (show decode cX0_isOnStandOrBay 8 = .ok (.aload_n 0, 1) by decide +kernel) rfl, List.forall_mem_cons.mpr ⟨k_getf (C := RX0) (T := TX0) (N := 10) (show decode cX0_isOnStandOrBay 9 = .ok (.getfield 27, 3) by decide +kernel) rfl inX0 (by decide) (gw1 120 rfl rfl) (by decide), List.forall_mem_cons.mpr ⟨k_iconst (show decode cX0_isOnStandOrBay 12 = .ok (.iconst 2, 1) by decide +kernel) (by decide +kernel), List.forall_mem_cons.mpr ⟨k_icmp_ne (show decode cX0_isOnStandOrBay 13 = .ok (.if_icmp .ne 7, 3) by decide +kernel) (by decide), List.forall_mem_cons.mpr ⟨k_iconst (show decode cX0_isOnStandOrBay 16 = .ok (.iconst 1, 1) by decide +kernel) (by decide +kernel), List.forall_mem_cons.mpr ⟨k_goto (show decode cX0_isOnStandOrBay 17 = .ok (.goto 4, 3) by decide +kernel) (by decide), List.forall_mem_cons.mpr ⟨k_iconst (show decode cX0_isOnStandOrBay 20 = .ok (.iconst 0, 1) by decide +kernel) (by decide +kernel), List.forall_mem_cons.mpr ⟨k_iret (show decode cX0_isOnStandOrBay 21 = .ok (.ireturn, 1) by decide +kernel), fun _ h => absurd h List.not_mem_nil⟩⟩⟩⟩⟩⟩⟩⟩⟩⟩⟩⟩
set_option maxRecDepth 20000 in
theorem okX0_takeBuses : ∀ q ∈ jcX0_takeBuses, JOk mtab cX0_takeBuses RX0 ("takeBuses", []) 1 none q.1 q.2 := by
  unfold jcX0_takeBuses
  exact List.forall_mem_cons.mpr ⟨k_ald_n (show decode cX0_takeBuses 0 = .ok (.aload_n 0, 1) by decide +kernel) rfl, List.forall_mem_cons.mpr ⟨k_dup (show decode cX0_takeBuses 1 = .ok (.dup, 1) by decide +kernel), List.forall_mem_cons.mpr ⟨k_getf (C := RX0) (T := TX0) (N := 10) (show decode cX0_takeBuses 2 = .ok (.getfield 39, 3) by decide +kernel) rfl inX0 (by decide) (gw1 130 rfl rfl) (by decide), List.forall_mem_cons.mpr ⟨k_ald_n (show decode cX0_takeBuses 5 = .ok (.aload_n 0, 1) by decide +kernel) rfl, List.forall_mem_cons.mpr ⟨k_getf (C := RX0) (T := TX0) (N := 10) (show decode cX0_takeBuses 6 = .ok (.getfield 24, 3) by decide +kernel) rfl inX0 (by decide) (gw1 119 rfl rfl) (by decide), List.forall_mem_cons.mpr ⟨k_bipush (show decode cX0_takeBuses 9 = .ok (.bipush 50, 2) by decide +kernel) (by decide +kernel), List.forall_mem_cons.mpr ⟨k_iadd (show decode cX0_takeBuses 11 = .ok (.iadd, 1) by decide +kernel), List.forall_mem_cons.mpr ⟨k_iconst (show decode cX0_takeBuses 12 = .ok (.iconst 1, 1) by decide +kernel) (by decide +kernel), List.forall_mem_cons.mpr ⟨k_isub (show decode cX0_takeBuses 13 = .ok (.isub, 1) by decide +kernel), List.forall_mem_cons.mpr ⟨k_bipush (show decode cX0_takeBuses 14 = .ok (.bipush 50, 2) by decide +kernel) (by decide +kernel), List.forall_mem_cons.mpr ⟨k_idiv (show decode cX0_takeBuses 16 = .ok (.idiv, 1) by decide +kernel), List.forall_mem_cons.mpr ⟨k_iadd (show decode cX0_takeBuses 17 = .ok (.iadd, 1) by decide +kernel), List.forall_mem_cons.mpr ⟨k_puti (C := RX0) (T := TX0) (N := 10) (show decode cX0_takeBuses 18 = .ok (.putfield 39, 3) by decide +kernel) rfl inX0 tyX0_ok nmX0 (by decide) rfl rfl (gw1 130 rfl rfl) (by decide), List.forall_mem_cons.mpr ⟨k_vret (show decode cX0_takeBuses 21 = .ok (.return_, 1) by decide +kernel), fun _ h => absurd h List.not_mem_nil⟩⟩⟩⟩⟩⟩⟩⟩⟩⟩⟩⟩⟩⟩
set_option maxRecDepth 20000 in
theorem okX0_answer : ∀ q ∈ jcX0_answer, JOk mtab cX0_answer RX0 ("answer", []) 2 none q.1 q.2 := by
  unfold jcX0_answer
  exact List.forall_mem_cons.mpr ⟨k_ild_n (show decode cX0_answer 0 = .ok (.iload_n 1, 1) by decide +kernel) rfl, List.forall_mem_cons.mpr ⟨k_tsw (show decode cX0_answer 1 = .ok (.tableswitch 96 0 8 #[51, 56, 61, 66, 71, 76, 81, 86, 91], 51) by decide +kernel) (by decide) (by decide) (by decide), List.forall_mem_cons.mpr ⟨k_ald_n (show decode cX0_answer 52 = .ok (.aload_n 0, 1) by decide +kernel) rfl, List.forall_mem_cons.mpr ⟨k_getf (C := RX0) (T := TX0) (N := 10) (show decode cX0_answer 53 = .ok (.getfield 9, 3) by decide +kernel) rfl inX0 (by decide) (gw1 109 rfl rfl) (by decide), List.forall_mem_cons.mpr ⟨k_iret (show decode cX0_answer 56 = .ok (.ireturn, 1) by decide +kernel), List.forall_mem_cons.mpr ⟨k_ald_n (show decode cX0_answer 57 = .ok (.aload_n 0, 1) by decide +kernel) rfl, List.forall_mem_cons.mpr ⟨k_getf (C := RX0) (T := TX0) (N := 10) (show decode cX0_answer 58 = .ok (.getfield 15, 3) by decide +kernel) rfl inX0 (by decide) (gw1 111 rfl rfl) (by decide), List.forall_mem_cons.mpr ⟨k_iret (show decode cX0_answer 61 = .ok (.ireturn, 1) by decide +kernel), List.forall_mem_cons.mpr ⟨k_ald_n (show decode cX0_answer 62 = .ok (.aload_n 0, 1) by decide +kernel) rfl, List.forall_mem_cons.mpr ⟨k_getf (C := RX0) (T := TX0) (N := 10) (show decode cX0_answer 63 = .ok (.getfield 18, 3) by decide +kernel) rfl inX0 (by decide) (gw1 113 rfl rfl) (by decide), List.forall_mem_cons.mpr ⟨k_iret (show decode cX0_answer 66 = .ok (.ireturn, 1) by decide +kernel), List.forall_mem_cons.mpr ⟨k_ald_n (show decode cX0_answer 67 = .ok (.aload_n 0, 1) by decide +kernel) rfl, List.forall_mem_cons.mpr ⟨k_getf (C := RX0) (T := TX0) (N := 10) (show decode cX0_answer 68 = .ok (.getfield 21, 3) by decide +kernel) rfl inX0 (by decide) (gw1 116 rfl rfl) (by decide), List.forall_mem_cons.mpr ⟨k_iret (show decode cX0_answer 71 = .ok (.ireturn, 1) by decide +kernel), List.forall_mem_cons.mpr ⟨k_ald_n (show decode cX0_answer 72 = .ok (.aload_n 0, 1) by decide +kernel) rfl, List.forall_mem_cons.mpr ⟨k_getf (C := RX0) (T := TX0) (N := 10) (show decode cX0_answer 73 = .ok (.getfield 24, 3) by decide +kernel) rfl inX0 (by decide) (gw1 119 rfl rfl) (by decide), List.forall_mem_cons.mpr ⟨k_iret (show decode cX0_answer 76 = .ok (.ireturn, 1) by decide +kernel), List.forall_mem_cons.mpr ⟨k_ald_n (show decode cX0_answer 77 = .ok (.aload_n 0, 1) by decide +kernel) rfl, List.forall_mem_cons.mpr ⟨k_getf (C := RX0) (T := TX0) (N := 10) (show decode cX0_answer 78 = .ok (.getfield 27, 3) by decide +kernel) rfl inX0 (by decide) (gw1 120 rfl rfl) (by decide), List.forall_mem_cons.mpr ⟨k_iret (show decode cX0_answer 81 = .ok (.ireturn, 1) by decide +kernel), List.forall_mem_cons.mpr ⟨k_ald_n (show decode cX0_answer 82 = .ok (.aload_n 0, 1) by decide +kernel) rfl, List.forall_mem_cons.mpr ⟨k_getf (C := RX0) (T := TX0) (N := 10) (show decode cX0_answer 83 = .ok (.getfield 30, 3) by decide +kernel) rfl inX0 (by decide) (gw1 123 rfl rfl) (by decide), List.forall_mem_cons.mpr ⟨k_iret (show decode cX0_answer 86 = .ok (.ireturn, 1) by decide +kernel), List.forall_mem_cons.mpr ⟨k_ald_n (show decode cX0_answer 87 = .ok (.aload_n 0, 1) by decide +kernel) rfl, List.forall_mem_cons.mpr ⟨k_getf (C := RX0) (T := TX0) (N := 10) (show decode cX0_answer 88 = .ok (.getfield 33, 3) by decide +kernel) rfl inX0 (by decide) (gw1 125 rfl rfl) (by decide), List.forall_mem_cons.mpr ⟨k_iret (show decode cX0_answer 91 = .ok (.ireturn, 1) by decide +kernel), List.forall_mem_cons.mpr ⟨k_ald_n (show decode cX0_answer 92 = .ok (.aload_n 0, 1) by decide +kernel) rfl, List.forall_mem_cons.mpr ⟨k_getf (C := RX0) (T := TX0) (N := 10) (show decode cX0_answer 93 = .ok (.getfield 36, 3) by decide +kernel) rfl inX0 (by decide) (gw1 128 rfl rfl) (by decide), List.forall_mem_cons.mpr ⟨k_iret (show decode cX0_answer 96 = .ok (.ireturn, 1) by decide +kernel), List.forall_mem_cons.mpr ⟨k_ald_n (show decode cX0_answer 97 = .ok (.aload_n 0, 1) by decide +kernel) rfl, List.forall_mem_cons.mpr ⟨k_getf (C := RX0) (T := TX0) (N := 10) (show decode cX0_answer 98 = .ok (.getfield 39, 3) by decide +kernel) rfl inX0 (by decide) (gw1 130 rfl rfl) (by decide), List.forall_mem_cons.mpr ⟨k_iret (show decode cX0_answer 101 = .ok (.ireturn, 1) by decide +kernel), fun _ h => absurd h List.not_mem_nil⟩⟩⟩⟩⟩⟩⟩⟩⟩⟩⟩⟩⟩⟩⟩⟩⟩⟩⟩⟩⟩⟩⟩⟩⟩⟩⟩⟩⟩⟩⟩⟩
end
section
/-! each action of a table is sound -/
set_option maxRecDepth 20000 in
theorem okX1_init_p1 : ∀ q ∈ jcX1_init_p1, JOk mtab cX1_init RX1 ("<init>", []) 2 none q.1 q.2 := by
  unfold jcX1_init_p1
  exact List.forall_mem_cons.mpr ⟨k_ald_n (show decode cX1_init 0 = .ok (.aload_n 0, 1) by decide +kernel) rfl, List.forall_mem_cons.mpr ⟨k_oini (show decode cX1_init 1 = .ok (.invokespecial 3, 3) by decide +kernel) (gw1 29 rfl rfl) (gw1 22 rfl rfl) (gw1 23 (by decide +kernel) rfl), List.forall_mem_cons.mpr ⟨k_ald_n (show decode cX1_init 4 = .ok (.aload_n 0, 1) by decide +kernel) rfl, List.forall_mem_cons.mpr ⟨k_bipush (show decode cX1_init 5 = .ok (.bipush 6, 2) by decide +kernel) (by decide +kernel), List.forall_mem_cons.mpr ⟨k_newq (show decode cX1_init 7 = .ok (.anewarray 9, 3) by decide +kernel) (by decide) rfl (by decide +kernel) (gw1 30 rfl rfl), List.forall_mem_cons.mpr ⟨k_putrF (C := RX1) (Cv := "") (T := TX1) (N := 10) (show decode cX1_init 10 = .ok (.putfield 11, 3) by decide +kernel) rfl inX1 tyX1_ok nmX1 (by decide) rfl rfl rfl rfl (fun _ => ⟨rfl, rfl⟩) (gw1 169 rfl rfl) (by decide), List.forall_mem_cons.mpr ⟨k_ald_n (show decode cX1_init 13 = .ok (.aload_n 0, 1) by decide +kernel) rfl, List.forall_mem_cons.mpr ⟨k_iconst (show decode cX1_init 14 = .ok (.iconst 3, 1) by decide +kernel) (by decide +kernel), List.forall_mem_cons.mpr ⟨k_newq (show decode cX1_init 15 = .ok (.anewarray 17, 3) by decide +kernel) (by decide) rfl (by decide +kernel) (gw1 32 rfl rfl), List.forall_mem_cons.mpr ⟨k_putrF (C := RX1) (Cv := "") (T := TX1) (N := 10) (show decode cX1_init 18 = .ok (.putfield 19, 3) by decide +kernel) rfl inX1 tyX1_ok nmX1 (by decide) rfl rfl rfl rfl (fun _ => ⟨rfl, rfl⟩) (gw1 171 rfl rfl) (by decide), List.forall_mem_cons.mpr ⟨k_ald_n (show decode cX1_init 21 = .ok (.aload_n 0, 1) by decide +kernel) rfl, List.forall_mem_cons.mpr ⟨k_bipush (show decode cX1_init 22 = .ok (.bipush 12, 2) by decide +kernel) (by decide +kernel), List.forall_mem_cons.mpr ⟨k_newq (show decode cX1_init 24 = .ok (.anewarray 23, 3) by decide +kernel) (by decide) rfl (by decide +kernel) (gw1 34 rfl rfl), List.forall_mem_cons.mpr ⟨k_putrF (C := RX1) (Cv := "") (T := TX1) (N := 10) (show decode cX1_init 27 = .ok (.putfield 25, 3) by decide +kernel) rfl inX1 tyX1_ok nmX1 (by decide) rfl rfl rfl rfl (fun _ => ⟨rfl, rfl⟩) (gw1 173 rfl rfl) (by decide), List.forall_mem_cons.mpr ⟨k_ald_n (show decode cX1_init 30 = .ok (.aload_n 0, 1) by decide +kernel) rfl, List.forall_mem_cons.mpr ⟨k_new (C := RX2) (T := TX2) (show decode cX1_init 31 = .ok (.new 29, 3) by decide +kernel) rfl inX2 tyX2_ok (by decide +kernel) (fun _ => rfl) (fun n => List.forall_mem_cons.mpr ⟨trivial, List.forall_mem_cons.mpr ⟨trivial, List.forall_mem_cons.mpr ⟨trivial, List.forall_mem_cons.mpr ⟨trivial, fun _ h => absurd h List.not_mem_nil⟩⟩⟩⟩) (gw1 36 rfl rfl) (gw1 37 rfl rfl) (gw1 3 rfl rfl), List.forall_mem_cons.mpr ⟨k_dup (show decode cX1_init 34 = .ok (.dup, 1) by decide +kernel), List.forall_mem_cons.mpr ⟨k_iniN (M := mX2_init) (host := "StandTugs") rfl rfl rfl rfl (show decode cX1_init 35 = .ok (.invokespecial 31, 3) by decide +kernel) (by decide +kernel) (by decide) (gw1 40 rfl rfl) (by decide +kernel) (gw1 39 rfl rfl) (gw1 3 rfl rfl), List.forall_mem_cons.mpr ⟨k_putrF (C := RX1) (Cv := "") (T := TX1) (N := 10) (show decode cX1_init 38 = .ok (.putfield 32, 3) by decide +kernel) rfl inX1 tyX1_ok nmX1 (by decide) rfl rfl rfl rfl (fun _ => ⟨rfl, rfl⟩) (gw1 175 rfl rfl) (by decide), List.forall_mem_cons.mpr ⟨k_iconst (show decode cX1_init 41 = .ok (.iconst 0, 1) by decide +kernel) (by decide +kernel), List.forall_mem_cons.mpr ⟨k_ist_n (show decode cX1_init 42 = .ok (.istore_n 1, 1) by decide +kernel) rfl (by decide), List.forall_mem_cons.mpr ⟨k_ild_n (show decode cX1_init 43 = .ok (.iload_n 1, 1) by decide +kernel) rfl, List.forall_mem_cons.mpr ⟨k_bipush (show decode cX1_init 44 = .ok (.bipush 6, 2) by decide +kernel) (by decide +kernel), List.forall_mem_cons.mpr ⟨k_icmp_ge (show decode cX1_init 46 = .ok (.if_icmp .ge 22, 3) by decide +kernel) (by decide), List.forall_mem_cons.mpr ⟨k_ald_n (show decode cX1_init 49 = .ok (.aload_n 0, 1) by decide +kernel) rfl, List.forall_mem_cons.mpr ⟨k_getf (C := RX1) (T := TX1) (N := 10) (show decode cX1_init 50 = .ok (.getfield 11, 3) by decide +kernel) rfl inX1 (by decide) (gw1 169 rfl rfl) (by decide), List.forall_mem_cons.mpr ⟨k_ild_n (show decode cX1_init 53 = .ok (.iload_n 1, 1) by decide +kernel) rfl, List.forall_mem_cons.mpr ⟨k_new (C := RX3) (T := TX3) (show decode cX1_init 54 = .ok (.new 9, 3) by decide +kernel) rfl inX3 tyX3_ok (by decide +kernel) (fun _ => rfl) (fun n => List.forall_mem_cons.mpr ⟨trivial, List.forall_mem_cons.mpr ⟨trivial, List.forall_mem_cons.mpr ⟨trivial, fun _ h => absurd h List.not_mem_nil⟩⟩⟩) (gw1 30 rfl rfl) (gw1 57 rfl rfl) (gw1 4 rfl rfl), List.forall_mem_cons.mpr ⟨k_dup (show decode cX1_init 57 = .ok (.dup, 1) by decide +kernel), List.forall_mem_cons.mpr ⟨k_iniN (M := mX3_init) (host := "StandTugs") rfl rfl rfl rfl (show decode cX1_init 58 = .ok (.invokespecial 36, 3) by decide +kernel) (by decide +kernel) (by decide) (gw1 60 rfl rfl) (by decide +kernel) (gw1 59 rfl rfl) (gw1 4 rfl rfl), List.forall_mem_cons.mpr ⟨k_aast (show decode cX1_init 61 = .ok (.aastore, 1) by decide +kernel) (by decide) rfl rfl (by decide), List.forall_mem_cons.mpr ⟨k_iinc (show decode cX1_init 62 = .ok (.iinc 1 1, 3) by decide +kernel) (by decide +kernel) (by decide), List.forall_mem_cons.mpr ⟨k_goto (show decode cX1_init 65 = .ok (.goto (-22), 3) by decide +kernel) (by decide), List.forall_mem_cons.mpr ⟨k_iconst (show decode cX1_init 68 = .ok (.iconst 0, 1) by decide +kernel) (by decide +kernel), List.forall_mem_cons.mpr ⟨k_ist_n (show decode cX1_init 69 = .ok (.istore_n 1, 1) by decide +kernel) rfl (by decide), List.forall_mem_cons.mpr ⟨k_ild_n (show decode cX1_init 70 = .ok (.iload_n 1, 1) by decide +kernel) rfl, List.forall_mem_cons.mpr ⟨k_iconst (show decode cX1_init 71 = .ok (.iconst 3, 1) by decide +kernel) (by decide +kernel), List.forall_mem_cons.mpr ⟨k_icmp_ge (show decode cX1_init 72 = .ok (.if_icmp .ge 22, 3) by decide +kernel) (by decide), List.forall_mem_cons.mpr ⟨k_ald_n (show decode cX1_init 75 = .ok (.aload_n 0, 1) by decide +kernel) rfl, List.forall_mem_cons.mpr ⟨k_getf (C := RX1) (T := TX1) (N := 10) (show decode cX1_init 76 = .ok (.getfield 19, 3) by decide +kernel) rfl inX1 (by decide) (gw1 171 rfl rfl) (by decide), fun _ h => absurd h List.not_mem_nil⟩⟩⟩⟩⟩⟩⟩⟩⟩⟩⟩⟩⟩⟩⟩⟩⟩⟩⟩⟩⟩⟩⟩⟩⟩⟩⟩⟩⟩⟩⟩⟩⟩⟩⟩⟩⟩⟩⟩⟩
set_option maxRecDepth 20000 in
theorem okX1_init_p2 : ∀ q ∈ jcX1_init_p2, JOk mtab cX1_init RX1 ("<init>", []) 2 none q.1 q.2 := by
  unfold jcX1_init_p2
  exact List.forall_mem_cons.mpr ⟨k_ild_n (show decode cX1_init 79 = .ok (.iload_n 1, 1) by decide +kernel) rfl, List.forall_mem_cons.mpr ⟨k_new (C := RX5) (T := TX5) (show decode cX1_init 80 = .ok (.new 17, 3) by decide +kernel) rfl inX5 tyX5_ok (by decide +kernel) (fun _ => rfl) (fun n => List.forall_mem_cons.mpr ⟨trivial, List.forall_mem_cons.mpr ⟨trivial, List.forall_mem_cons.mpr ⟨trivial, List.forall_mem_cons.mpr ⟨trivial, List.forall_mem_cons.mpr ⟨trivial, fun _ h => absurd h List.not_mem_nil⟩⟩⟩⟩⟩) (gw1 32 rfl rfl) (gw1 77 rfl rfl) (gw1 5 rfl rfl), List.forall_mem_cons.mpr ⟨k_dup (show decode cX1_init 83 = .ok (.dup, 1) by decide +kernel), List.forall_mem_cons.mpr ⟨k_iniN (M := mX5_init) (host := "StandTugs") rfl rfl rfl rfl (show decode cX1_init 84 = .ok (.invokespecial 37, 3) by decide +kernel) (by decide +kernel) (by decide) (gw1 80 rfl rfl) (by decide +kernel) (gw1 79 rfl rfl) (gw1 5 rfl rfl), List.forall_mem_cons.mpr ⟨k_aast (show decode cX1_init 87 = .ok (.aastore, 1) by decide +kernel) (by decide) rfl rfl (by decide), List.forall_mem_cons.mpr ⟨k_iinc (show decode cX1_init 88 = .ok (.iinc 1 1, 3) by decide +kernel) (by decide +kernel) (by decide), List.forall_mem_cons.mpr ⟨k_goto (show decode cX1_init 91 = .ok (.goto (-21), 3) by decide +kernel) (by decide), List.forall_mem_cons.mpr ⟨k_iconst (show decode cX1_init 94 = .ok (.iconst 0, 1) by decide +kernel) (by decide +kernel), List.forall_mem_cons.mpr ⟨k_ist_n (show decode cX1_init 95 = .ok (.istore_n 1, 1) by decide +kernel) rfl (by decide), List.forall_mem_cons.mpr ⟨k_ild_n (show decode cX1_init 96 = .ok (.iload_n 1, 1) by decide +kernel) rfl, List.forall_mem_cons.mpr ⟨k_bipush (show decode cX1_init 97 = .ok (.bipush 12, 2) by decide +kernel) (by decide +kernel), List.forall_mem_cons.mpr ⟨k_icmp_ge (show decode cX1_init 99 = .ok (.if_icmp .ge 22, 3) by decide +kernel) (by decide), List.forall_mem_cons.mpr ⟨k_ald_n (show decode cX1_init 102 = .ok (.aload_n 0, 1) by decide +kernel) rfl, List.forall_mem_cons.mpr ⟨k_getf (C := RX1) (T := TX1) (N := 10) (show decode cX1_init 103 = .ok (.getfield 25, 3) by decide +kernel) rfl inX1 (by decide) (gw1 173 rfl rfl) (by decide), List.forall_mem_cons.mpr ⟨k_ild_n (show decode cX1_init 106 = .ok (.iload_n 1, 1) by decide +kernel) rfl, List.forall_mem_cons.mpr ⟨k_new (C := RX0) (T := TX0) (show decode cX1_init 107 = .ok (.new 23, 3) by decide +kernel) rfl inX0 tyX0_ok (by decide +kernel) (fun _ => rfl) (fun n => List.forall_mem_cons.mpr ⟨trivial, List.forall_mem_cons.mpr ⟨trivial, List.forall_mem_cons.mpr ⟨trivial, List.forall_mem_cons.mpr ⟨trivial, List.forall_mem_cons.mpr ⟨trivial, List.forall_mem_cons.mpr ⟨trivial, List.forall_mem_cons.mpr ⟨trivial, List.forall_mem_cons.mpr ⟨trivial, List.forall_mem_cons.mpr ⟨trivial, List.forall_mem_cons.mpr ⟨trivial, fun _ h => absurd h List.not_mem_nil⟩⟩⟩⟩⟩⟩⟩⟩⟩⟩) (gw1 34 rfl rfl) (gw1 104 rfl rfl) (gw1 6 rfl rfl), List.forall_mem_cons.mpr ⟨k_dup (show decode cX1_init 110 = .ok (.dup, 1) by decide +kernel), List.forall_mem_cons.mpr ⟨k_iniN (M := mX0_init) (host := "StandTugs") rfl rfl rfl rfl (show decode cX1_init 111 = .ok (.invokespecial 38, 3) by decide +kernel) (by decide +kernel) (by decide) (gw1 107 rfl rfl) (by decide +kernel) (gw1 106 rfl rfl) (gw1 6 rfl rfl), List.forall_mem_cons.mpr ⟨k_aast (show decode cX1_init 114 = .ok (.aastore, 1) by decide +kernel) (by decide) rfl rfl (by decide), List.forall_mem_cons.mpr ⟨k_iinc (show decode cX1_init 115 = .ok (.iinc 1 1, 3) by decide +kernel) (by decide +kernel) (by decide), List.forall_mem_cons.mpr ⟨k_goto (show decode cX1_init 118 = .ok (.goto (-22), 3) by decide +kernel) (by decide), List.forall_mem_cons.mpr ⟨k_ald_n (show decode cX1_init 121 = .ok (.aload_n 0, 1) by decide +kernel) rfl, List.forall_mem_cons.mpr ⟨k_iconst (show decode cX1_init 122 = .ok (.iconst 3, 1) by decide +kernel) (by decide +kernel), List.forall_mem_cons.mpr ⟨k_iconst (show decode cX1_init 123 = .ok (.iconst 1, 1) by decide +kernel) (by decide +kernel), List.forall_mem_cons.mpr ⟨k_inv (M := mX1_build) (T := TX1) (N := 10) rfl rfl (show decode cX1_init 124 = .ok (.invokevirtual 39, 3) by decide +kernel) rfl (by decide) (by decide +kernel) (by decide) (gw1 156 rfl rfl) (gw1 153 rfl rfl) (gw1 154 rfl rfl) (gw1 155 rfl rfl) (gw1 2 rfl rfl) (fun _ h => absurd h List.not_mem_nil), List.forall_mem_cons.mpr ⟨k_vret (show decode cX1_init 127 = .ok (.return_, 1) by decide +kernel), fun _ h => absurd h List.not_mem_nil⟩⟩⟩⟩⟩⟩⟩⟩⟩⟩⟩⟩⟩⟩⟩⟩⟩⟩⟩⟩⟩⟩⟩⟩⟩⟩
theorem okX1_init : ∀ q ∈ jcX1_init, JOk mtab cX1_init RX1 ("<init>", []) 2 none q.1 q.2 := by
  unfold jcX1_init
  exact List.forall_mem_append.mpr ⟨okX1_init_p1, okX1_init_p2⟩
set_option maxRecDepth 20000 in
theorem okX1_build : ∀ q ∈ jcX1_build, JOk mtab cX1_build RX1 ("build", []) 4 none q.1 q.2 := by
  unfold jcX1_build
  exact List.forall_mem_cons.mpr ⟨k_ald_n (show decode cX1_build 0 = .ok (.aload_n 0, 1) by decide +kernel) rfl, List.forall_mem_cons.mpr ⟨k_ild_n (show decode cX1_build 1 = .ok (.iload_n 1, 1) by decide +kernel) rfl, List.forall_mem_cons.mpr ⟨k_puti (C := RX1) (T := TX1) (N := 10) (show decode cX1_build 2 = .ok (.putfield 43, 3) by decide +kernel) rfl inX1 tyX1_ok nmX1 (by decide) rfl rfl (gw1 176 rfl rfl) (by decide), List.forall_mem_cons.mpr ⟨k_ald_n (show decode cX1_build 5 = .ok (.aload_n 0, 1) by decide +kernel) rfl, List.forall_mem_cons.mpr ⟨k_ild_n (show decode cX1_build 6 = .ok (.iload_n 2, 1) by decide +kernel) rfl, List.forall_mem_cons.mpr ⟨k_puti (C := RX1) (T := TX1) (N := 10) (show decode cX1_build 7 = .ok (.putfield 47, 3) by decide +kernel) rfl inX1 tyX1_ok nmX1 (by decide) rfl rfl (gw1 178 rfl rfl) (by decide), List.forall_mem_cons.mpr ⟨k_iconst (show decode cX1_build 10 = .ok (.iconst 0, 1) by decide +kernel) (by decide +kernel), List.forall_mem_cons.mpr ⟨k_ist_n (show decode cX1_build 11 = .ok (.istore_n 3, 1) by decide +kernel) rfl (by decide), List.forall_mem_cons.mpr ⟨k_ild_n (show decode cX1_build 12 = .ok (.iload_n 3, 1) by decide +kernel) rfl, List.forall_mem_cons.mpr ⟨k_ald_n (show decode cX1_build 13 = .ok (.aload_n 0, 1) by decide +kernel) rfl, List.forall_mem_cons.mpr ⟨k_getf (C := RX1) (T := TX1) (N := 10) (show decode cX1_build 14 = .ok (.getfield 43, 3) by decide +kernel) rfl inX1 (by decide) (gw1 176 rfl rfl) (by decide), List.forall_mem_cons.mpr ⟨k_icmp_ge (show decode cX1_build 17 = .ok (.if_icmp .ge 19, 3) by decide +kernel) (by decide), List.forall_mem_cons.mpr ⟨k_ald_n (show decode cX1_build 20 = .ok (.aload_n 0, 1) by decide +kernel) rfl, List.forall_mem_cons.mpr ⟨k_getf (C := RX1) (T := TX1) (N := 10) (show decode cX1_build 21 = .ok (.getfield 11, 3) by decide +kernel) rfl inX1 (by decide) (gw1 169 rfl rfl) (by decide), List.forall_mem_cons.mpr ⟨k_ild_n (show decode cX1_build 24 = .ok (.iload_n 3, 1) by decide +kernel) rfl, List.forall_mem_cons.mpr ⟨k_aald (show decode cX1_build 25 = .ok (.aaload, 1) by decide +kernel) (by decide) rfl, List.forall_mem_cons.mpr ⟨k_iconst (show decode cX1_build 26 = .ok (.iconst 2, 1) by decide +kernel) (by decide +kernel), List.forall_mem_cons.mpr ⟨k_puti (C := RX3) (T := TX3) (N := 3) (show decode cX1_build 27 = .ok (.putfield 50, 3) by decide +kernel) rfl inX3 tyX3_ok nmX3 (by decide) rfl rfl (gw1 62 rfl rfl) (by decide), List.forall_mem_cons.mpr ⟨k_iinc (show decode cX1_build 30 = .ok (.iinc 3 1, 3) by decide +kernel) (by decide +kernel) (by decide), List.forall_mem_cons.mpr ⟨k_goto (show decode cX1_build 33 = .ok (.goto (-21), 3) by decide +kernel) (by decide), List.forall_mem_cons.mpr ⟨k_iconst (show decode cX1_build 36 = .ok (.iconst 0, 1) by decide +kernel) (by decide +kernel), List.forall_mem_cons.mpr ⟨k_ist_n (show decode cX1_build 37 = .ok (.istore_n 3, 1) by decide +kernel) rfl (by decide), List.forall_mem_cons.mpr ⟨k_ild_n (show decode cX1_build 38 = .ok (.iload_n 3, 1) by decide +kernel) rfl, List.forall_mem_cons.mpr ⟨k_ald_n (show decode cX1_build 39 = .ok (.aload_n 0, 1) by decide +kernel) rfl, List.forall_mem_cons.mpr ⟨k_getf (C := RX1) (T := TX1) (N := 10) (show decode cX1_build 40 = .ok (.getfield 47, 3) by decide +kernel) rfl inX1 (by decide) (gw1 178 rfl rfl) (by decide), List.forall_mem_cons.mpr ⟨k_icmp_ge (show decode cX1_build 43 = .ok (.if_icmp .ge 19, 3) by decide +kernel) (by decide), List.forall_mem_cons.mpr ⟨k_ald_n (show decode cX1_build 46 = .ok (.aload_n 0, 1) by decide +kernel) rfl, List.forall_mem_cons.mpr ⟨k_getf (C := RX1) (T := TX1) (N := 10) (show decode cX1_build 47 = .ok (.getfield 19, 3) by decide +kernel) rfl inX1 (by decide) (gw1 171 rfl rfl) (by decide), List.forall_mem_cons.mpr ⟨k_ild_n (show decode cX1_build 50 = .ok (.iload_n 3, 1) by decide +kernel) rfl, List.forall_mem_cons.mpr ⟨k_aald (show decode cX1_build 51 = .ok (.aaload, 1) by decide +kernel) (by decide) rfl, List.forall_mem_cons.mpr ⟨k_iconst (show decode cX1_build 52 = .ok (.iconst 3, 1) by decide +kernel) (by decide +kernel), List.forall_mem_cons.mpr ⟨k_puti (C := RX5) (T := TX5) (N := 5) (show decode cX1_build 53 = .ok (.putfield 53, 3) by decide +kernel) rfl inX5 tyX5_ok nmX5 (by decide) rfl rfl (gw1 82 rfl rfl) (by decide), List.forall_mem_cons.mpr ⟨k_iinc (show decode cX1_build 56 = .ok (.iinc 3 1, 3) by decide +kernel) (by decide +kernel) (by decide), List.forall_mem_cons.mpr ⟨k_goto (show decode cX1_build 59 = .ok (.goto (-21), 3) by decide +kernel) (by decide), List.forall_mem_cons.mpr ⟨k_ald_n (show decode cX1_build 62 = .ok (.aload_n 0, 1) by decide +kernel) rfl, List.forall_mem_cons.mpr ⟨k_inv (M := mX1_restart) (T := TX1) (N := 10) rfl rfl (show decode cX1_build 63 = .ok (.invokevirtual 56, 3) by decide +kernel) rfl (by decide) (by decide +kernel) (by decide) (gw1 160 rfl rfl) (gw1 157 rfl rfl) (gw1 158 rfl rfl) (gw1 159 rfl rfl) (gw1 2 rfl rfl) (fun _ h => absurd h List.not_mem_nil), List.forall_mem_cons.mpr ⟨k_vret (show decode cX1_build 66 = .ok (.return_, 1) by decide +kernel), fun _ h => absurd h List.not_mem_nil⟩⟩⟩⟩⟩⟩⟩⟩⟩⟩⟩⟩⟩⟩⟩⟩⟩⟩⟩⟩⟩⟩⟩⟩⟩⟩⟩⟩⟩⟩⟩⟩⟩⟩⟩⟩⟩
set_option maxRecDepth 20000 in
theorem okX1_restart : ∀ q ∈ jcX1_restart, JOk mtab cX1_restart RX1 ("restart", []) 2 none q.1 q.2 := by
  unfold jcX1_restart
  exact List.forall_mem_cons.mpr ⟨k_iconst (show decode cX1_restart 0 = .ok (.iconst 0, 1) by decide +kernel) (by decide +kernel), List.forall_mem_cons.mpr ⟨k_ist_n (show decode cX1_restart 1 = .ok (.istore_n 1, 1) by decide +kernel) rfl (by decide), List.forall_mem_cons.mpr ⟨k_ild_n (show decode cX1_restart 2 = .ok (.iload_n 1, 1) by decide +kernel) rfl, List.forall_mem_cons.mpr ⟨k_ald_n (show decode cX1_restart 3 = .ok (.aload_n 0, 1) by decide +kernel) rfl, List.forall_mem_cons.mpr ⟨k_getf (C := RX1) (T := TX1) (N := 10) (show decode cX1_restart 4 = .ok (.getfield 43, 3) by decide +kernel) rfl inX1 (by decide) (gw1 176 rfl rfl) (by decide), List.forall_mem_cons.mpr ⟨k_icmp_ge (show decode cX1_restart 7 = .ok (.if_icmp .ge 18, 3) by decide +kernel) (by decide), List.forall_mem_cons.mpr ⟨k_ald_n (show decode cX1_restart 10 = .ok (.aload_n 0, 1) by decide +kernel) rfl, List.forall_mem_cons.mpr ⟨k_getf (C := RX1) (T := TX1) (N := 10) (show decode cX1_restart 11 = .ok (.getfield 11, 3) by decide +kernel) rfl inX1 (by decide) (gw1 169 rfl rfl) (by decide), List.forall_mem_cons.mpr ⟨k_ild_n (show decode cX1_restart 14 = .ok (.iload_n 1, 1) by decide +kernel) rfl, List.forall_mem_cons.mpr ⟨k_aald (show decode cX1_restart 15 = .ok (.aaload, 1) by decide +kernel) (by decide) rfl, List.forall_mem_cons.mpr ⟨k_inv (M := mX3_restart) (T := TX3) (N := 3) rfl rfl (show decode cX1_restart 16 = .ok (.invokevirtual 59, 3) by decide +kernel) rfl (by decide) (by decide +kernel) (by decide) (gw1 164 rfl rfl) (gw1 161 rfl rfl) (gw1 162 rfl rfl) (gw1 163 rfl rfl) (gw1 4 rfl rfl) (fun _ h => absurd h List.not_mem_nil), List.forall_mem_cons.mpr ⟨k_iinc (show decode cX1_restart 19 = .ok (.iinc 1 1, 3) by decide +kernel) (by decide +kernel) (by decide), List.forall_mem_cons.mpr ⟨k_goto (show decode cX1_restart 22 = .ok (.goto (-20), 3) by decide +kernel) (by decide), List.forall_mem_cons.mpr ⟨k_iconst (show decode cX1_restart 25 = .ok (.iconst 0, 1) by decide +kernel) (by decide +kernel), List.forall_mem_cons.mpr ⟨k_ist_n (show decode cX1_restart 26 = .ok (.istore_n 1, 1) by decide +kernel) rfl (by decide), List.forall_mem_cons.mpr ⟨k_ild_n (show decode cX1_restart 27 = .ok (.iload_n 1, 1) by decide +kernel) rfl, List.forall_mem_cons.mpr ⟨k_ald_n (show decode cX1_restart 28 = .ok (.aload_n 0, 1) by decide +kernel) rfl, List.forall_mem_cons.mpr ⟨k_getf (C := RX1) (T := TX1) (N := 10) (show decode cX1_restart 29 = .ok (.getfield 47, 3) by decide +kernel) rfl inX1 (by decide) (gw1 178 rfl rfl) (by decide), List.forall_mem_cons.mpr ⟨k_icmp_ge (show decode cX1_restart 32 = .ok (.if_icmp .ge 18, 3) by decide +kernel) (by decide), List.forall_mem_cons.mpr ⟨k_ald_n (show decode cX1_restart 35 = .ok (.aload_n 0, 1) by decide +kernel) rfl, List.forall_mem_cons.mpr ⟨k_getf (C := RX1) (T := TX1) (N := 10) (show decode cX1_restart 36 = .ok (.getfield 19, 3) by decide +kernel) rfl inX1 (by decide) (gw1 171 rfl rfl) (by decide), List.forall_mem_cons.mpr ⟨k_ild_n (show decode cX1_restart 39 = .ok (.iload_n 1, 1) by decide +kernel) rfl, List.forall_mem_cons.mpr ⟨k_aald (show decode cX1_restart 40 = .ok (.aaload, 1) by decide +kernel) (by decide) rfl, List.forall_mem_cons.mpr ⟨k_inv (M := mX5_restart) (T := TX5) (N := 5) rfl rfl (show decode cX1_restart 41 = .ok (.invokevirtual 60, 3) by decide +kernel) rfl (by decide) (by decide +kernel) (by decide) (gw1 168 rfl rfl) (gw1 165 rfl rfl) (gw1 166 rfl rfl) (gw1 167 rfl rfl) (gw1 5 rfl rfl) (fun _ h => absurd h List.not_mem_nil), List.forall_mem_cons.mpr ⟨k_iinc (show decode cX1_restart 44 = .ok (.iinc 1 1, 3) by decide +kernel) (by decide +kernel) (by decide), List.forall_mem_cons.mpr ⟨k_goto (show decode cX1_restart 47 = .ok (.goto (-20), 3) by decide +kernel) (by decide), List.forall_mem_cons.mpr ⟨k_ald_n (show decode cX1_restart 50 = .ok (.aload_n 0, 1) by decide +kernel) rfl, List.forall_mem_cons.mpr ⟨k_iconst (show decode cX1_restart 51 = .ok (.iconst 0, 1) by decide +kernel) (by decide +kernel), List.forall_mem_cons.mpr ⟨k_puti (C := RX1) (T := TX1) (N := 10) (show decode cX1_restart 52 = .ok (.putfield 61, 3) by decide +kernel) rfl inX1 tyX1_ok nmX1 (by decide) rfl rfl (gw1 179 rfl rfl) (by decide), List.forall_mem_cons.mpr ⟨k_ald_n (show decode cX1_restart 55 = .ok (.aload_n 0, 1) by decide +kernel) rfl, List.forall_mem_cons.mpr ⟨k_iconst (show decode cX1_restart 56 = .ok (.iconst 0, 1) by decide +kernel) (by decide +kernel), List.forall_mem_cons.mpr ⟨k_puti (C := RX1) (T := TX1) (N := 10) (show decode cX1_restart 57 = .ok (.putfield 64, 3) by decide +kernel) rfl inX1 tyX1_ok nmX1 (by decide) rfl rfl (gw1 182 rfl rfl) (by decide), List.forall_mem_cons.mpr ⟨k_ald_n (show decode cX1_restart 60 = .ok (.aload_n 0, 1) by decide +kernel) rfl, List.forall_mem_cons.mpr ⟨k_getf (C := RX1) (T := TX1) (N := 10) (show decode cX1_restart 61 = .ok (.getfield 32, 3) by decide +kernel) rfl inX1 (by decide) (gw1 175 rfl rfl) (by decide), List.forall_mem_cons.mpr ⟨k_iconst (show decode cX1_restart 64 = .ok (.iconst 0, 1) by decide +kernel) (by decide +kernel), List.forall_mem_cons.mpr ⟨k_puti (C := RX2) (T := TX2) (N := 4) (show decode cX1_restart 65 = .ok (.putfield 67, 3) by decide +kernel) rfl inX2 tyX2_ok nmX2 (by decide) rfl rfl (gw1 46 rfl rfl) (by decide), List.forall_mem_cons.mpr ⟨k_vret (show decode cX1_restart 68 = .ok (.return_, 1) by decide +kernel), fun _ h => absurd h List.not_mem_nil⟩⟩⟩⟩⟩⟩⟩⟩⟩⟩⟩⟩⟩⟩⟩⟩⟩⟩⟩⟩⟩⟩⟩⟩⟩⟩⟩⟩⟩⟩⟩⟩⟩⟩⟩⟩⟩
set_option maxRecDepth 20000 in
theorem okX1_copyFrom_p1 : ∀ q ∈ jcX1_copyFrom_p1, JOk mtab cX1_copyFrom RX1 ("copyFrom", []) 3 none q.1 q.2 := by
  unfold jcX1_copyFrom_p1
  exact List.forall_mem_cons.mpr ⟨k_ald_n (show decode cX1_copyFrom 0 = .ok (.aload_n 0, 1) by decide +kernel) rfl, List.forall_mem_cons.mpr ⟨k_ald_n (show decode cX1_copyFrom 1 = .ok (.aload_n 1, 1) by decide +kernel) rfl, List.forall_mem_cons.mpr ⟨k_getf (C := RX1) (T := TX1) (N := 10) (show decode cX1_copyFrom 2 = .ok (.getfield 43, 3) by decide +kernel) rfl inX1 (by decide) (gw1 176 rfl rfl) (by decide), List.forall_mem_cons.mpr ⟨k_puti (C := RX1) (T := TX1) (N := 10) (show decode cX1_copyFrom 5 = .ok (.putfield 43, 3) by decide +kernel) rfl inX1 tyX1_ok nmX1 (by decide) rfl rfl (gw1 176 rfl rfl) (by decide), List.forall_mem_cons.mpr ⟨k_ald_n (show decode cX1_copyFrom 8 = .ok (.aload_n 0, 1) by decide +kernel) rfl, List.forall_mem_cons.mpr ⟨k_ald_n (show decode cX1_copyFrom 9 = .ok (.aload_n 1, 1) by decide +kernel) rfl, List.forall_mem_cons.mpr ⟨k_getf (C := RX1) (T := TX1) (N := 10) (show decode cX1_copyFrom 10 = .ok (.getfield 47, 3) by decide +kernel) rfl inX1 (by decide) (gw1 178 rfl rfl) (by decide), List.forall_mem_cons.mpr ⟨k_puti (C := RX1) (T := TX1) (N := 10) (show decode cX1_copyFrom 13 = .ok (.putfield 47, 3) by decide +kernel) rfl inX1 tyX1_ok nmX1 (by decide) rfl rfl (gw1 178 rfl rfl) (by decide), List.forall_mem_cons.mpr ⟨k_ald_n (show decode cX1_copyFrom 16 = .ok (.aload_n 0, 1) by decide +kernel) rfl, List.forall_mem_cons.mpr ⟨k_ald_n (show decode cX1_copyFrom 17 = .ok (.aload_n 1, 1) by decide +kernel) rfl, List.forall_mem_cons.mpr ⟨k_getf (C := RX1) (T := TX1) (N := 10) (show decode cX1_copyFrom 18 = .ok (.getfield 61, 3) by decide +kernel) rfl inX1 (by decide) (gw1 179 rfl rfl) (by decide), List.forall_mem_cons.mpr ⟨k_puti (C := RX1) (T := TX1) (N := 10) (show decode cX1_copyFrom 21 = .ok (.putfield 61, 3) by decide +kernel) rfl inX1 tyX1_ok nmX1 (by decide) rfl rfl (gw1 179 rfl rfl) (by decide), List.forall_mem_cons.mpr ⟨k_ald_n (show decode cX1_copyFrom 24 = .ok (.aload_n 0, 1) by decide +kernel) rfl, List.forall_mem_cons.mpr ⟨k_ald_n (show decode cX1_copyFrom 25 = .ok (.aload_n 1, 1) by decide +kernel) rfl, List.forall_mem_cons.mpr ⟨k_getf (C := RX1) (T := TX1) (N := 10) (show decode cX1_copyFrom 26 = .ok (.getfield 64, 3) by decide +kernel) rfl inX1 (by decide) (gw1 182 rfl rfl) (by decide), List.forall_mem_cons.mpr ⟨k_puti (C := RX1) (T := TX1) (N := 10) (show decode cX1_copyFrom 29 = .ok (.putfield 64, 3) by decide +kernel) rfl inX1 tyX1_ok nmX1 (by decide) rfl rfl (gw1 182 rfl rfl) (by decide), List.forall_mem_cons.mpr ⟨k_ald_n (show decode cX1_copyFrom 32 = .ok (.aload_n 0, 1) by decide +kernel) rfl, List.forall_mem_cons.mpr ⟨k_ald_n (show decode cX1_copyFrom 33 = .ok (.aload_n 1, 1) by decide +kernel) rfl, List.forall_mem_cons.mpr ⟨k_getf (C := RX1) (T := TX1) (N := 10) (show decode cX1_copyFrom 34 = .ok (.getfield 70, 3) by decide +kernel) rfl inX1 (by decide) (gw1 183 rfl rfl) (by decide), List.forall_mem_cons.mpr ⟨k_puti (C := RX1) (T := TX1) (N := 10) (show decode cX1_copyFrom 37 = .ok (.putfield 70, 3) by decide +kernel) rfl inX1 tyX1_ok nmX1 (by decide) rfl rfl (gw1 183 rfl rfl) (by decide), List.forall_mem_cons.mpr ⟨k_ald_n (show decode cX1_copyFrom 40 = .ok (.aload_n 0, 1) by decide +kernel) rfl, List.forall_mem_cons.mpr ⟨k_ald_n (show decode cX1_copyFrom 41 = .ok (.aload_n 1, 1) by decide +kernel) rfl, List.forall_mem_cons.mpr ⟨k_getf (C := RX1) (T := TX1) (N := 10) (show decode cX1_copyFrom 42 = .ok (.getfield 73, 3) by decide +kernel) rfl inX1 (by decide) (gw1 185 rfl rfl) (by decide), List.forall_mem_cons.mpr ⟨k_puti (C := RX1) (T := TX1) (N := 10) (show decode cX1_copyFrom 45 = .ok (.putfield 73, 3) by decide +kernel) rfl inX1 tyX1_ok nmX1 (by decide) rfl rfl (gw1 185 rfl rfl) (by decide), List.forall_mem_cons.mpr ⟨k_iconst (show decode cX1_copyFrom 48 = .ok (.iconst 0, 1) by decide +kernel) (by decide +kernel), List.forall_mem_cons.mpr ⟨k_ist_n (show decode cX1_copyFrom 49 = .ok (.istore_n 2, 1) by decide +kernel) rfl (by decide), List.forall_mem_cons.mpr ⟨k_ild_n (show decode cX1_copyFrom 50 = .ok (.iload_n 2, 1) by decide +kernel) rfl, List.forall_mem_cons.mpr ⟨k_ald_n (show decode cX1_copyFrom 51 = .ok (.aload_n 0, 1) by decide +kernel) rfl, List.forall_mem_cons.mpr ⟨k_getf (C := RX1) (T := TX1) (N := 10) (show decode cX1_copyFrom 52 = .ok (.getfield 43, 3) by decide +kernel) rfl inX1 (by decide) (gw1 176 rfl rfl) (by decide), List.forall_mem_cons.mpr ⟨k_icmp_ge (show decode cX1_copyFrom 55 = .ok (.if_icmp .ge 24, 3) by decide +kernel) (by decide), List.forall_mem_cons.mpr ⟨k_ald_n (show decode cX1_copyFrom 58 = .ok (.aload_n 0, 1) by decide +kernel) rfl, List.forall_mem_cons.mpr ⟨k_getf (C := RX1) (T := TX1) (N := 10) (show decode cX1_copyFrom 59 = .ok (.getfield 11, 3) by decide +kernel) rfl inX1 (by decide) (gw1 169 rfl rfl) (by decide), List.forall_mem_cons.mpr ⟨k_ild_n (show decode cX1_copyFrom 62 = .ok (.iload_n 2, 1) by decide +kernel) rfl, List.forall_mem_cons.mpr ⟨k_aald (show decode cX1_copyFrom 63 = .ok (.aaload, 1) by decide +kernel) (by decide) rfl, List.forall_mem_cons.mpr ⟨k_ald_n (show decode cX1_copyFrom 64 = .ok (.aload_n 1, 1) by decide +kernel) rfl, List.forall_mem_cons.mpr ⟨k_getf (C := RX1) (T := TX1) (N := 10) (show decode cX1_copyFrom 65 = .ok (.getfield 11, 3) by decide +kernel) rfl inX1 (by decide) (gw1 169 rfl rfl) (by decide), List.forall_mem_cons.mpr ⟨k_ild_n (show decode cX1_copyFrom 68 = .ok (.iload_n 2, 1) by decide +kernel) rfl, List.forall_mem_cons.mpr ⟨k_aald (show decode cX1_copyFrom 69 = .ok (.aaload, 1) by decide +kernel) (by decide) rfl, List.forall_mem_cons.mpr ⟨k_inv (M := mX3_copyFrom) (T := TX3) (N := 3) rfl rfl (show decode cX1_copyFrom 70 = .ok (.invokevirtual 76, 3) by decide +kernel) rfl (by decide) (by decide +kernel) (by decide) (gw2 121 rfl rfl) (gw2 118 rfl rfl) (gw2 119 rfl rfl) (gw2 120 rfl rfl) (gw1 4 rfl rfl) (fun _ h => absurd h List.not_mem_nil), List.forall_mem_cons.mpr ⟨k_iinc (show decode cX1_copyFrom 73 = .ok (.iinc 2 1, 3) by decide +kernel) (by decide +kernel) (by decide), fun _ h => absurd h List.not_mem_nil⟩⟩⟩⟩⟩⟩⟩⟩⟩⟩⟩⟩⟩⟩⟩⟩⟩⟩⟩⟩⟩⟩⟩⟩⟩⟩⟩⟩⟩⟩⟩⟩⟩⟩⟩⟩⟩⟩⟩⟩
set_option maxRecDepth 20000 in
theorem okX1_copyFrom_p2 : ∀ q ∈ jcX1_copyFrom_p2, JOk mtab cX1_copyFrom RX1 ("copyFrom", []) 3 none q.1 q.2 := by
  unfold jcX1_copyFrom_p2
  exact List.forall_mem_cons.mpr ⟨k_goto (show decode cX1_copyFrom 76 = .ok (.goto (-26), 3) by decide +kernel) (by decide), List.forall_mem_cons.mpr ⟨k_iconst (show decode cX1_copyFrom 79 = .ok (.iconst 0, 1) by decide +kernel) (by decide +kernel), List.forall_mem_cons.mpr ⟨k_ist_n (show decode cX1_copyFrom 80 = .ok (.istore_n 2, 1) by decide +kernel) rfl (by decide), List.forall_mem_cons.mpr ⟨k_ild_n (show decode cX1_copyFrom 81 = .ok (.iload_n 2, 1) by decide +kernel) rfl, List.forall_mem_cons.mpr ⟨k_ald_n (show decode cX1_copyFrom 82 = .ok (.aload_n 0, 1) by decide +kernel) rfl, List.forall_mem_cons.mpr ⟨k_getf (C := RX1) (T := TX1) (N := 10) (show decode cX1_copyFrom 83 = .ok (.getfield 47, 3) by decide +kernel) rfl inX1 (by decide) (gw1 178 rfl rfl) (by decide), List.forall_mem_cons.mpr ⟨k_icmp_ge (show decode cX1_copyFrom 86 = .ok (.if_icmp .ge 24, 3) by decide +kernel) (by decide), List.forall_mem_cons.mpr ⟨k_ald_n (show decode cX1_copyFrom 89 = .ok (.aload_n 0, 1) by decide +kernel) rfl, List.forall_mem_cons.mpr ⟨k_getf (C := RX1) (T := TX1) (N := 10) (show decode cX1_copyFrom 90 = .ok (.getfield 19, 3) by decide +kernel) rfl inX1 (by decide) (gw1 171 rfl rfl) (by decide), List.forall_mem_cons.mpr ⟨k_ild_n (show decode cX1_copyFrom 93 = .ok (.iload_n 2, 1) by decide +kernel) rfl, List.forall_mem_cons.mpr ⟨k_aald (show decode cX1_copyFrom 94 = .ok (.aaload, 1) by decide +kernel) (by decide) rfl, List.forall_mem_cons.mpr ⟨k_ald_n (show decode cX1_copyFrom 95 = .ok (.aload_n 1, 1) by decide +kernel) rfl, List.forall_mem_cons.mpr ⟨k_getf (C := RX1) (T := TX1) (N := 10) (show decode cX1_copyFrom 96 = .ok (.getfield 19, 3) by decide +kernel) rfl inX1 (by decide) (gw1 171 rfl rfl) (by decide), List.forall_mem_cons.mpr ⟨k_ild_n (show decode cX1_copyFrom 99 = .ok (.iload_n 2, 1) by decide +kernel) rfl, List.forall_mem_cons.mpr ⟨k_aald (show decode cX1_copyFrom 100 = .ok (.aaload, 1) by decide +kernel) (by decide) rfl, List.forall_mem_cons.mpr ⟨k_inv (M := mX5_copyFrom) (T := TX5) (N := 5) rfl rfl (show decode cX1_copyFrom 101 = .ok (.invokevirtual 80, 3) by decide +kernel) rfl (by decide) (by decide +kernel) (by decide) (gw2 125 rfl rfl) (gw2 122 rfl rfl) (gw2 123 rfl rfl) (gw2 124 rfl rfl) (gw1 5 rfl rfl) (fun _ h => absurd h List.not_mem_nil), List.forall_mem_cons.mpr ⟨k_iinc (show decode cX1_copyFrom 104 = .ok (.iinc 2 1, 3) by decide +kernel) (by decide +kernel) (by decide), List.forall_mem_cons.mpr ⟨k_goto (show decode cX1_copyFrom 107 = .ok (.goto (-26), 3) by decide +kernel) (by decide), List.forall_mem_cons.mpr ⟨k_iconst (show decode cX1_copyFrom 110 = .ok (.iconst 0, 1) by decide +kernel) (by decide +kernel), List.forall_mem_cons.mpr ⟨k_ist_n (show decode cX1_copyFrom 111 = .ok (.istore_n 2, 1) by decide +kernel) rfl (by decide), List.forall_mem_cons.mpr ⟨k_ild_n (show decode cX1_copyFrom 112 = .ok (.iload_n 2, 1) by decide +kernel) rfl, List.forall_mem_cons.mpr ⟨k_ald_n (show decode cX1_copyFrom 113 = .ok (.aload_n 0, 1) by decide +kernel) rfl, List.forall_mem_cons.mpr ⟨k_getf (C := RX1) (T := TX1) (N := 10) (show decode cX1_copyFrom 114 = .ok (.getfield 61, 3) by decide +kernel) rfl inX1 (by decide) (gw1 179 rfl rfl) (by decide), List.forall_mem_cons.mpr ⟨k_icmp_ge (show decode cX1_copyFrom 117 = .ok (.if_icmp .ge 24, 3) by decide +kernel) (by decide), List.forall_mem_cons.mpr ⟨k_ald_n (show decode cX1_copyFrom 120 = .ok (.aload_n 0, 1) by decide +kernel) rfl, List.forall_mem_cons.mpr ⟨k_getf (C := RX1) (T := TX1) (N := 10) (show decode cX1_copyFrom 121 = .ok (.getfield 25, 3) by decide +kernel) rfl inX1 (by decide) (gw1 173 rfl rfl) (by decide), List.forall_mem_cons.mpr ⟨k_ild_n (show decode cX1_copyFrom 124 = .ok (.iload_n 2, 1) by decide +kernel) rfl, List.forall_mem_cons.mpr ⟨k_aald (show decode cX1_copyFrom 125 = .ok (.aaload, 1) by decide +kernel) (by decide) rfl, List.forall_mem_cons.mpr ⟨k_ald_n (show decode cX1_copyFrom 126 = .ok (.aload_n 1, 1) by decide +kernel) rfl, List.forall_mem_cons.mpr ⟨k_getf (C := RX1) (T := TX1) (N := 10) (show decode cX1_copyFrom 127 = .ok (.getfield 25, 3) by decide +kernel) rfl inX1 (by decide) (gw1 173 rfl rfl) (by decide), List.forall_mem_cons.mpr ⟨k_ild_n (show decode cX1_copyFrom 130 = .ok (.iload_n 2, 1) by decide +kernel) rfl, List.forall_mem_cons.mpr ⟨k_aald (show decode cX1_copyFrom 131 = .ok (.aaload, 1) by decide +kernel) (by decide) rfl, List.forall_mem_cons.mpr ⟨k_inv (M := mX0_copyFrom) (T := TX0) (N := 10) rfl rfl (show decode cX1_copyFrom 132 = .ok (.invokevirtual 83, 3) by decide +kernel) rfl (by decide) (by decide +kernel) (by decide) (gw2 129 rfl rfl) (gw2 126 rfl rfl) (gw2 127 rfl rfl) (gw2 128 rfl rfl) (gw1 6 rfl rfl) (fun _ h => absurd h List.not_mem_nil), List.forall_mem_cons.mpr ⟨k_iinc (show decode cX1_copyFrom 135 = .ok (.iinc 2 1, 3) by decide +kernel) (by decide +kernel) (by decide), List.forall_mem_cons.mpr ⟨k_goto (show decode cX1_copyFrom 138 = .ok (.goto (-26), 3) by decide +kernel) (by decide), List.forall_mem_cons.mpr ⟨k_ald_n (show decode cX1_copyFrom 141 = .ok (.aload_n 0, 1) by decide +kernel) rfl, List.forall_mem_cons.mpr ⟨k_getf (C := RX1) (T := TX1) (N := 10) (show decode cX1_copyFrom 142 = .ok (.getfield 32, 3) by decide +kernel) rfl inX1 (by decide) (gw1 175 rfl rfl) (by decide), List.forall_mem_cons.mpr ⟨k_ald_n (show decode cX1_copyFrom 145 = .ok (.aload_n 1, 1) by decide +kernel) rfl, List.forall_mem_cons.mpr ⟨k_getf (C := RX1) (T := TX1) (N := 10) (show decode cX1_copyFrom 146 = .ok (.getfield 32, 3) by decide +kernel) rfl inX1 (by decide) (gw1 175 rfl rfl) (by decide), List.forall_mem_cons.mpr ⟨k_inv (M := mX2_copyFrom) (T := TX2) (N := 4) rfl rfl (show decode cX1_copyFrom 149 = .ok (.invokevirtual 86, 3) by decide +kernel) rfl (by decide) (by decide +kernel) (by decide) (gw2 133 rfl rfl) (gw2 130 rfl rfl) (gw2 131 rfl rfl) (gw2 132 rfl rfl) (gw1 3 rfl rfl) (fun _ h => absurd h List.not_mem_nil), fun _ h => absurd h List.not_mem_nil⟩⟩⟩⟩⟩⟩⟩⟩⟩⟩⟩⟩⟩⟩⟩⟩⟩⟩⟩⟩⟩⟩⟩⟩⟩⟩⟩⟩⟩⟩⟩⟩⟩⟩⟩⟩⟩⟩⟩⟩
set_option maxRecDepth 20000 in
theorem okX1_copyFrom_p3 : ∀ q ∈ jcX1_copyFrom_p3, JOk mtab cX1_copyFrom RX1 ("copyFrom", []) 3 none q.1 q.2 := by
  unfold jcX1_copyFrom_p3
  exact List.forall_mem_cons.mpr ⟨k_vret (show decode cX1_copyFrom 152 = .ok (.return_, 1) by decide +kernel), fun _ h => absurd h List.not_mem_nil⟩
theorem okX1_copyFrom : ∀ q ∈ jcX1_copyFrom, JOk mtab cX1_copyFrom RX1 ("copyFrom", []) 3 none q.1 q.2 := by
  unfold jcX1_copyFrom
  exact List.forall_mem_append.mpr ⟨okX1_copyFrom_p1, List.forall_mem_append.mpr ⟨okX1_copyFrom_p2, okX1_copyFrom_p3⟩⟩
set_option maxRecDepth 20000 in
theorem okX1_hasStand : ∀ q ∈ jcX1_hasStand, JOk mtab cX1_hasStand RX1 ("hasStand", []) 2 none q.1 q.2 := by
  unfold jcX1_hasStand
  exact List.forall_mem_cons.mpr ⟨k_ild_n (show decode cX1_hasStand 0 = .ok (.iload_n 1, 1) by decide +kernel) rfl, List.forall_mem_cons.mpr ⟨k_if_lt (show decode cX1_hasStand 1 = .ok (.ifCond .lt 15, 3) by decide +kernel) (by decide), List.forall_mem_cons.mpr ⟨k_ild_n (show decode cX1_hasStand 4 = .ok (.iload_n 1, 1) by decide +kernel) rfl, List.forall_mem_cons.mpr ⟨k_ald_n (show decode cX1_hasStand 5 = .ok (.aload_n 0, 1) by decide +kernel) rfl, List.forall_mem_cons.mpr ⟨k_getf (C := RX1) (T := TX1) (N := 10) (show decode cX1_hasStand 6 = .ok (.getfield 43, 3) by decide +kernel) rfl inX1 (by decide) (gw1 176 rfl rfl) (by decide), List.forall_mem_cons.mpr ⟨k_icmp_ge (show decode cX1_hasStand 9 = .ok (.if_icmp .ge 7, 3) by decide +kernel) (by decide), List.forall_mem_cons.mpr ⟨k_iconst (show decode cX1_hasStand 12 = .ok (.iconst 1, 1) by decide +kernel) (by decide +kernel), List.forall_mem_cons.mpr ⟨k_goto (show decode cX1_hasStand 13 = .ok (.goto 4, 3) by decide +kernel) (by decide), List.forall_mem_cons.mpr ⟨k_iconst (show decode cX1_hasStand 16 = .ok (.iconst 0, 1) by decide +kernel) (by decide +kernel), List.forall_mem_cons.mpr ⟨k_iret (show decode cX1_hasStand 17 = .ok (.ireturn, 1) by decide +kernel), fun _ h => absurd h List.not_mem_nil⟩⟩⟩⟩⟩⟩⟩⟩⟩⟩
set_option maxRecDepth 20000 in
theorem okX1_hasTug : ∀ q ∈ jcX1_hasTug, JOk mtab cX1_hasTug RX1 ("hasTug", []) 2 none q.1 q.2 := by
  unfold jcX1_hasTug
  exact List.forall_mem_cons.mpr ⟨k_ild_n (show decode cX1_hasTug 0 = .ok (.iload_n 1, 1) by decide +kernel) rfl, List.forall_mem_cons.mpr ⟨k_if_lt (show decode cX1_hasTug 1 = .ok (.ifCond .lt 15, 3) by decide +kernel) (by decide), List.forall_mem_cons.mpr ⟨k_ild_n (show decode cX1_hasTug 4 = .ok (.iload_n 1, 1) by decide +kernel) rfl, List.forall_mem_cons.mpr ⟨k_ald_n (show decode cX1_hasTug 5 = .ok (.aload_n 0, 1) by decide +kernel) rfl, List.forall_mem_cons.mpr ⟨k_getf (C := RX1) (T := TX1) (N := 10) (show decode cX1_hasTug 6 = .ok (.getfield 47, 3) by decide +kernel) rfl inX1 (by decide) (gw1 178 rfl rfl) (by decide), List.forall_mem_cons.mpr ⟨k_icmp_ge (show decode cX1_hasTug 9 = .ok (.if_icmp .ge 7, 3) by decide +kernel) (by decide), List.forall_mem_cons.mpr ⟨k_iconst (show decode cX1_hasTug 12 = .ok (.iconst 1, 1) by decide +kernel) (by decide +kernel), List.forall_mem_cons.mpr ⟨k_goto (show decode cX1_hasTug 13 = .ok (.goto 4, 3) by decide +kernel) (by decide), List.forall_mem_cons.mpr ⟨k_iconst (show decode cX1_hasTug 16 = .ok (.iconst 0, 1) by decide +kernel) (by decide +kernel), List.forall_mem_cons.mpr ⟨k_iret (show decode cX1_hasTug 17 = .ok (.ireturn, 1) by decide +kernel), fun _ h => absurd h List.not_mem_nil⟩⟩⟩⟩⟩⟩⟩⟩⟩⟩
set_option maxRecDepth 20000 in
theorem okX1_hasAircraft : ∀ q ∈ jcX1_hasAircraft, JOk mtab cX1_hasAircraft RX1 ("hasAircraft", []) 2 none q.1 q.2 := by
  unfold jcX1_hasAircraft
  exact List.forall_mem_cons.mpr ⟨k_ild_n (show decode cX1_hasAircraft 0 = .ok (.iload_n 1, 1) by decide +kernel) rfl, List.forall_mem_cons.mpr ⟨k_if_lt (show decode cX1_hasAircraft 1 = .ok (.ifCond .lt 15, 3) by decide +kernel) (by decide), List.forall_mem_cons.mpr ⟨k_ild_n (show decode cX1_hasAircraft 4 = .ok (.iload_n 1, 1) by decide +kernel) rfl, List.forall_mem_cons.mpr ⟨k_ald_n (show decode cX1_hasAircraft 5 = .ok (.aload_n 0, 1) by decide +kernel) rfl, List.forall_mem_cons.mpr ⟨k_getf (C := RX1) (T := TX1) (N := 10) (show decode cX1_hasAircraft 6 = .ok (.getfield 61, 3) by decide +kernel) rfl inX1 (by decide) (gw1 179 rfl rfl) (by decide), List.forall_mem_cons.mpr ⟨k_icmp_ge (show decode cX1_hasAircraft 9 = .ok (.if_icmp .ge 7, 3) by decide +kernel) (by decide), List.forall_mem_cons.mpr ⟨k_iconst (show decode cX1_hasAircraft 12 = .ok (.iconst 1, 1) by decide +kernel) (by decide +kernel), List.forall_mem_cons.mpr ⟨k_goto (show decode cX1_hasAircraft 13 = .ok (.goto 4, 3) by decide +kernel) (by decide), List.forall_mem_cons.mpr ⟨k_iconst (show decode cX1_hasAircraft 16 = .ok (.iconst 0, 1) by decide +kernel) (by decide +kernel), List.forall_mem_cons.mpr ⟨k_iret (show decode cX1_hasAircraft 17 = .ok (.ireturn, 1) by decide +kernel), fun _ h => absurd h List.not_mem_nil⟩⟩⟩⟩⟩⟩⟩⟩⟩⟩
set_option maxRecDepth 20000 in
theorem okX1_add : ∀ q ∈ jcX1_add, JOk mtab cX1_add RX1 ("add", []) 5 none q.1 q.2 := by
  unfold jcX1_add
  exact List.forall_mem_cons.mpr ⟨k_ald_n (show decode cX1_add 0 = .ok (.aload_n 0, 1) by decide +kernel) rfl, List.forall_mem_cons.mpr ⟨k_getf (C := RX1) (T := TX1) (N := 10) (show decode cX1_add 1 = .ok (.getfield 61, 3) by decide +kernel) rfl inX1 (by decide) (gw1 179 rfl rfl) (by decide), List.forall_mem_cons.mpr ⟨k_bipush (show decode cX1_add 4 = .ok (.bipush 12, 2) by decide +kernel) (by decide +kernel), List.forall_mem_cons.mpr ⟨k_icmp_ge (show decode cX1_add 6 = .ok (.if_icmp .ge 30, 3) by decide +kernel) (by decide), List.forall_mem_cons.mpr ⟨k_ald_n (show decode cX1_add 9 = .ok (.aload_n 0, 1) by decide +kernel) rfl, List.forall_mem_cons.mpr ⟨k_getf (C := RX1) (T := TX1) (N := 10) (show decode cX1_add 10 = .ok (.getfield 25, 3) by decide +kernel) rfl inX1 (by decide) (gw1 173 rfl rfl) (by decide), List.forall_mem_cons.mpr ⟨k_ald_n (show decode cX1_add 13 = .ok (.aload_n 0, 1) by decide +kernel) rfl, List.forall_mem_cons.mpr ⟨k_getf (C := RX1) (T := TX1) (N := 10) (show decode cX1_add 14 = .ok (.getfield 61, 3) by decide +kernel) rfl inX1 (by decide) (gw1 179 rfl rfl) (by decide), List.forall_mem_cons.mpr ⟨k_aald (show decode cX1_add 17 = .ok (.aaload, 1) by decide +kernel) (by decide) rfl, List.forall_mem_cons.mpr ⟨k_ild_n (show decode cX1_add 18 = .ok (.iload_n 1, 1) by decide +kernel) rfl, List.forall_mem_cons.mpr ⟨k_ild_n (show decode cX1_add 19 = .ok (.iload_n 2, 1) by decide +kernel) rfl, List.forall_mem_cons.mpr ⟨k_ild_n (show decode cX1_add 20 = .ok (.iload_n 3, 1) by decide +kernel) rfl, List.forall_mem_cons.mpr ⟨k_ild (show decode cX1_add 21 = .ok (.iload 4, 2) by decide +kernel), List.forall_mem_cons.mpr ⟨k_inv (M := mX0_tell) (T := TX0) (N := 10) rfl rfl (show decode cX1_add 23 = .ok (.invokevirtual 89, 3) by decide +kernel) rfl (by decide) (by decide +kernel) (by decide) (gw3 109 rfl rfl) (gw3 106 rfl rfl) (gw3 107 rfl rfl) (gw3 108 rfl rfl) (gw1 6 rfl rfl) (fun _ h => absurd h List.not_mem_nil), List.forall_mem_cons.mpr ⟨k_ald_n (show decode cX1_add 26 = .ok (.aload_n 0, 1) by decide +kernel) rfl, List.forall_mem_cons.mpr ⟨k_dup (show decode cX1_add 27 = .ok (.dup, 1) by decide +kernel), List.forall_mem_cons.mpr ⟨k_getf (C := RX1) (T := TX1) (N := 10) (show decode cX1_add 28 = .ok (.getfield 61, 3) by decide +kernel) rfl inX1 (by decide) (gw1 179 rfl rfl) (by decide), List.forall_mem_cons.mpr ⟨k_iconst (show decode cX1_add 31 = .ok (.iconst 1, 1) by decide +kernel) (by decide +kernel), List.forall_mem_cons.mpr ⟨k_iadd (show decode cX1_add 32 = .ok (.iadd, 1) by decide +kernel), List.forall_mem_cons.mpr ⟨k_puti (C := RX1) (T := TX1) (N := 10) (show decode cX1_add 33 = .ok (.putfield 61, 3) by decide +kernel) rfl inX1 tyX1_ok nmX1 (by decide) rfl rfl (gw1 179 rfl rfl) (by decide), List.forall_mem_cons.mpr ⟨k_vret (show decode cX1_add 36 = .ok (.return_, 1) by decide +kernel), fun _ h => absurd h List.not_mem_nil⟩⟩⟩⟩⟩⟩⟩⟩⟩⟩⟩⟩⟩⟩⟩⟩⟩⟩⟩⟩⟩
set_option maxRecDepth 20000 in
theorem okX1_passSome_p1 : ∀ q ∈ jcX1_passSome_p1, JOk mtab cX1_passSome RX1 ("passSome", []) 5 none q.1 q.2 := by
  unfold jcX1_passSome_p1
  exact List.forall_mem_cons.mpr ⟨k_ald_n (show decode cX1_passSome 0 = .ok (.aload_n 0, 1) by decide +kernel) rfl, List.forall_mem_cons.mpr ⟨k_getf (C := RX1) (T := TX1) (N := 10) (show decode cX1_passSome 1 = .ok (.getfield 32, 3) by decide +kernel) rfl inX1 (by decide) (gw1 175 rfl rfl) (by decide), List.forall_mem_cons.mpr ⟨k_getf (C := RX2) (T := TX2) (N := 4) (show decode cX1_passSome 4 = .ok (.getfield 67, 3) by decide +kernel) rfl inX2 (by decide) (gw1 46 rfl rfl) (by decide), List.forall_mem_cons.mpr ⟨k_ist_n (show decode cX1_passSome 7 = .ok (.istore_n 2, 1) by decide +kernel) rfl (by decide), List.forall_mem_cons.mpr ⟨k_ald_n (show decode cX1_passSome 8 = .ok (.aload_n 0, 1) by decide +kernel) rfl, List.forall_mem_cons.mpr ⟨k_inv (M := mX1_workTugs) (T := TX1) (N := 10) rfl rfl (show decode cX1_passSome 9 = .ok (.invokevirtual 93, 3) by decide +kernel) rfl (by decide) (by decide +kernel) (by decide) (gw2 148 rfl rfl) (gw2 145 rfl rfl) (gw2 147 rfl rfl) (gs1 3 rfl) (gw1 2 rfl rfl) (fun _ h => absurd h List.not_mem_nil), List.forall_mem_cons.mpr ⟨k_ald_n (show decode cX1_passSome 12 = .ok (.aload_n 0, 1) by decide +kernel) rfl, List.forall_mem_cons.mpr ⟨k_inv (M := mX1_receive) (T := TX1) (N := 10) rfl rfl (show decode cX1_passSome 13 = .ok (.invokevirtual 96, 3) by decide +kernel) rfl (by decide) (by decide +kernel) (by decide) (gw2 160 rfl rfl) (gw2 157 rfl rfl) (gw2 159 rfl rfl) (gs1 5 rfl) (gw1 2 rfl rfl) (fun _ h => absurd h List.not_mem_nil), List.forall_mem_cons.mpr ⟨k_ald_n (show decode cX1_passSome 16 = .ok (.aload_n 0, 1) by decide +kernel) rfl, List.forall_mem_cons.mpr ⟨k_inv (M := mX1_pushBack) (T := TX1) (N := 10) rfl rfl (show decode cX1_passSome 17 = .ok (.invokevirtual 99, 3) by decide +kernel) rfl (by decide) (by decide +kernel) (by decide) (gw2 172 rfl rfl) (gw2 169 rfl rfl) (gw2 171 rfl rfl) (gs1 7 rfl) (gw1 2 rfl rfl) (fun _ h => absurd h List.not_mem_nil), List.forall_mem_cons.mpr ⟨k_ald_n (show decode cX1_passSome 20 = .ok (.aload_n 0, 1) by decide +kernel) rfl, List.forall_mem_cons.mpr ⟨k_inv (M := mX1_tow) (T := TX1) (N := 10) rfl rfl (show decode cX1_passSome 21 = .ok (.invokevirtual 102, 3) by decide +kernel) rfl (by decide) (by decide +kernel) (by decide) (gw2 212 rfl rfl) (gw2 209 rfl rfl) (gw2 211 rfl rfl) (gs1 14 rfl) (gw1 2 rfl rfl) (fun _ h => absurd h List.not_mem_nil), List.forall_mem_cons.mpr ⟨k_iconst (show decode cX1_passSome 24 = .ok (.iconst 0, 1) by decide +kernel) (by decide +kernel), List.forall_mem_cons.mpr ⟨k_ist_n (show decode cX1_passSome 25 = .ok (.istore_n 3, 1) by decide +kernel) rfl (by decide), List.forall_mem_cons.mpr ⟨k_ald_n (show decode cX1_passSome 26 = .ok (.aload_n 0, 1) by decide +kernel) rfl, List.forall_mem_cons.mpr ⟨k_getf (C := RX1) (T := TX1) (N := 10) (show decode cX1_passSome 27 = .ok (.getfield 32, 3) by decide +kernel) rfl inX1 (by decide) (gw1 175 rfl rfl) (by decide), List.forall_mem_cons.mpr ⟨k_getf (C := RX2) (T := TX2) (N := 4) (show decode cX1_passSome 30 = .ok (.getfield 67, 3) by decide +kernel) rfl inX2 (by decide) (gw1 46 rfl rfl) (by decide), List.forall_mem_cons.mpr ⟨k_ild_n (show decode cX1_passSome 33 = .ok (.iload_n 2, 1) by decide +kernel) rfl, List.forall_mem_cons.mpr ⟨k_icmp_ne (show decode cX1_passSome 34 = .ok (.if_icmp .ne 18, 3) by decide +kernel) (by decide), List.forall_mem_cons.mpr ⟨k_iconst (show decode cX1_passSome 37 = .ok (.iconst 0, 1) by decide +kernel) (by decide +kernel), List.forall_mem_cons.mpr ⟨k_ald_n (show decode cX1_passSome 38 = .ok (.aload_n 0, 1) by decide +kernel) rfl, List.forall_mem_cons.mpr ⟨k_inv (M := mX1_quietMinutes) (T := TX1) (N := 10) rfl rfl (show decode cX1_passSome 39 = .ok (.invokevirtual 105, 3) by decide +kernel) rfl (by decide) (by decide +kernel) (by decide) (gw2 216 rfl rfl) (gw2 213 rfl rfl) (gw2 215 rfl rfl) (gs1 15 rfl) (gw1 2 rfl rfl) (fun _ h => absurd h List.not_mem_nil), List.forall_mem_cons.mpr ⟨k_ild_n (show decode cX1_passSome 42 = .ok (.iload_n 1, 1) by decide +kernel) rfl, List.forall_mem_cons.mpr ⟨k_iconst (show decode cX1_passSome 43 = .ok (.iconst 1, 1) by decide +kernel) (by decide +kernel), List.forall_mem_cons.mpr ⟨k_isub (show decode cX1_passSome 44 = .ok (.isub, 1) by decide +kernel), List.forall_mem_cons.mpr ⟨k_mmin (show decode cX1_passSome 45 = .ok (.invokestatic 109, 3) by decide +kernel) (gw2 217 rfl rfl) (gw2 218 rfl rfl) (gw1 14 rfl rfl) (gw2 219 (by decide +kernel) rfl), List.forall_mem_cons.mpr ⟨k_mmax (show decode cX1_passSome 48 = .ok (.invokestatic 115, 3) by decide +kernel) (gw2 220 rfl rfl) (gw2 221 rfl rfl) (gw1 14 rfl rfl) (gw2 222 (by decide +kernel) rfl), List.forall_mem_cons.mpr ⟨k_ist_n (show decode cX1_passSome 51 = .ok (.istore_n 3, 1) by decide +kernel) rfl (by decide), List.forall_mem_cons.mpr ⟨k_iconst (show decode cX1_passSome 52 = .ok (.iconst 0, 1) by decide +kernel) (by decide +kernel), List.forall_mem_cons.mpr ⟨k_ist (show decode cX1_passSome 53 = .ok (.istore 4, 2) by decide +kernel) (by decide), List.forall_mem_cons.mpr ⟨k_ild (show decode cX1_passSome 55 = .ok (.iload 4, 2) by decide +kernel), List.forall_mem_cons.mpr ⟨k_ald_n (show decode cX1_passSome 57 = .ok (.aload_n 0, 1) by decide +kernel) rfl, List.forall_mem_cons.mpr ⟨k_getf (C := RX1) (T := TX1) (N := 10) (show decode cX1_passSome 58 = .ok (.getfield 47, 3) by decide +kernel) rfl inX1 (by decide) (gw1 178 rfl rfl) (by decide), List.forall_mem_cons.mpr ⟨k_icmp_ge (show decode cX1_passSome 61 = .ok (.if_icmp .ge 39, 3) by decide +kernel) (by decide), List.forall_mem_cons.mpr ⟨k_ald_n (show decode cX1_passSome 64 = .ok (.aload_n 0, 1) by decide +kernel) rfl, List.forall_mem_cons.mpr ⟨k_getf (C := RX1) (T := TX1) (N := 10) (show decode cX1_passSome 65 = .ok (.getfield 19, 3) by decide +kernel) rfl inX1 (by decide) (gw1 171 rfl rfl) (by decide), List.forall_mem_cons.mpr ⟨k_ild (show decode cX1_passSome 68 = .ok (.iload 4, 2) by decide +kernel), List.forall_mem_cons.mpr ⟨k_aald (show decode cX1_passSome 70 = .ok (.aaload, 1) by decide +kernel) (by decide) rfl, List.forall_mem_cons.mpr ⟨k_getf (C := RX5) (T := TX5) (N := 5) (show decode cX1_passSome 71 = .ok (.getfield 118, 3) by decide +kernel) rfl inX5 (by decide) (gw1 86 rfl rfl) (by decide), List.forall_mem_cons.mpr ⟨k_iconst (show decode cX1_passSome 74 = .ok (.iconst (-1), 1) by decide +kernel) (by decide +kernel), fun _ h => absurd h List.not_mem_nil⟩⟩⟩⟩⟩⟩⟩⟩⟩⟩⟩⟩⟩⟩⟩⟩⟩⟩⟩⟩⟩⟩⟩⟩⟩⟩⟩⟩⟩⟩⟩⟩⟩⟩⟩⟩⟩⟩⟩⟩
set_option maxRecDepth 20000 in
theorem okX1_passSome_p2 : ∀ q ∈ jcX1_passSome_p2, JOk mtab cX1_passSome RX1 ("passSome", []) 5 none q.1 q.2 := by
  unfold jcX1_passSome_p2
  exact List.forall_mem_cons.mpr ⟨k_icmp_eq (show decode cX1_passSome 75 = .ok (.if_icmp .eq 19, 3) by decide +kernel) (by decide), List.forall_mem_cons.mpr ⟨k_ald_n (show decode cX1_passSome 78 = .ok (.aload_n 0, 1) by decide +kernel) rfl, List.forall_mem_cons.mpr ⟨k_getf (C := RX1) (T := TX1) (N := 10) (show decode cX1_passSome 79 = .ok (.getfield 19, 3) by decide +kernel) rfl inX1 (by decide) (gw1 171 rfl rfl) (by decide), List.forall_mem_cons.mpr ⟨k_ild (show decode cX1_passSome 82 = .ok (.iload 4, 2) by decide +kernel), List.forall_mem_cons.mpr ⟨k_aald (show decode cX1_passSome 84 = .ok (.aaload, 1) by decide +kernel) (by decide) rfl, List.forall_mem_cons.mpr ⟨k_dup (show decode cX1_passSome 85 = .ok (.dup, 1) by decide +kernel), List.forall_mem_cons.mpr ⟨k_getf (C := RX5) (T := TX5) (N := 5) (show decode cX1_passSome 86 = .ok (.getfield 120, 3) by decide +kernel) rfl inX5 (by decide) (gw1 88 rfl rfl) (by decide), List.forall_mem_cons.mpr ⟨k_ild_n (show decode cX1_passSome 89 = .ok (.iload_n 3, 1) by decide +kernel) rfl, List.forall_mem_cons.mpr ⟨k_isub (show decode cX1_passSome 90 = .ok (.isub, 1) by decide +kernel), List.forall_mem_cons.mpr ⟨k_puti (C := RX5) (T := TX5) (N := 5) (show decode cX1_passSome 91 = .ok (.putfield 120, 3) by decide +kernel) rfl inX5 tyX5_ok nmX5 (by decide) rfl rfl (gw1 88 rfl rfl) (by decide), List.forall_mem_cons.mpr ⟨k_iinc (show decode cX1_passSome 94 = .ok (.iinc 4 1, 3) by decide +kernel) (by decide +kernel) (by decide), List.forall_mem_cons.mpr ⟨k_goto (show decode cX1_passSome 97 = .ok (.goto (-42), 3) by decide +kernel) (by decide), List.forall_mem_cons.mpr ⟨k_ald_n (show decode cX1_passSome 100 = .ok (.aload_n 0, 1) by decide +kernel) rfl, List.forall_mem_cons.mpr ⟨k_iconst (show decode cX1_passSome 101 = .ok (.iconst 1, 1) by decide +kernel) (by decide +kernel), List.forall_mem_cons.mpr ⟨k_ild_n (show decode cX1_passSome 102 = .ok (.iload_n 3, 1) by decide +kernel) rfl, List.forall_mem_cons.mpr ⟨k_iadd (show decode cX1_passSome 103 = .ok (.iadd, 1) by decide +kernel), List.forall_mem_cons.mpr ⟨k_inv (M := mX1_countMinutes) (T := TX1) (N := 10) rfl rfl (show decode cX1_passSome 104 = .ok (.invokevirtual 123, 3) by decide +kernel) rfl (by decide) (by decide +kernel) (by decide) (gw2 226 rfl rfl) (gw2 223 rfl rfl) (gw2 225 rfl rfl) (gs2 0 rfl) (gw1 2 rfl rfl) (fun _ h => absurd h List.not_mem_nil), List.forall_mem_cons.mpr ⟨k_ald_n (show decode cX1_passSome 107 = .ok (.aload_n 0, 1) by decide +kernel) rfl, List.forall_mem_cons.mpr ⟨k_dup (show decode cX1_passSome 108 = .ok (.dup, 1) by decide +kernel), List.forall_mem_cons.mpr ⟨k_getf (C := RX1) (T := TX1) (N := 10) (show decode cX1_passSome 109 = .ok (.getfield 64, 3) by decide +kernel) rfl inX1 (by decide) (gw1 182 rfl rfl) (by decide), List.forall_mem_cons.mpr ⟨k_iconst (show decode cX1_passSome 112 = .ok (.iconst 1, 1) by decide +kernel) (by decide +kernel), List.forall_mem_cons.mpr ⟨k_ild_n (show decode cX1_passSome 113 = .ok (.iload_n 3, 1) by decide +kernel) rfl, List.forall_mem_cons.mpr ⟨k_iadd (show decode cX1_passSome 114 = .ok (.iadd, 1) by decide +kernel), List.forall_mem_cons.mpr ⟨k_iadd (show decode cX1_passSome 115 = .ok (.iadd, 1) by decide +kernel), List.forall_mem_cons.mpr ⟨k_puti (C := RX1) (T := TX1) (N := 10) (show decode cX1_passSome 116 = .ok (.putfield 64, 3) by decide +kernel) rfl inX1 tyX1_ok nmX1 (by decide) rfl rfl (gw1 182 rfl rfl) (by decide), List.forall_mem_cons.mpr ⟨k_iconst (show decode cX1_passSome 119 = .ok (.iconst 1, 1) by decide +kernel) (by decide +kernel), List.forall_mem_cons.mpr ⟨k_ild_n (show decode cX1_passSome 120 = .ok (.iload_n 3, 1) by decide +kernel) rfl, List.forall_mem_cons.mpr ⟨k_iadd (show decode cX1_passSome 121 = .ok (.iadd, 1) by decide +kernel), List.forall_mem_cons.mpr ⟨k_iret (show decode cX1_passSome 122 = .ok (.ireturn, 1) by decide +kernel), fun _ h => absurd h List.not_mem_nil⟩⟩⟩⟩⟩⟩⟩⟩⟩⟩⟩⟩⟩⟩⟩⟩⟩⟩⟩⟩⟩⟩⟩⟩⟩⟩⟩⟩⟩
theorem okX1_passSome : ∀ q ∈ jcX1_passSome, JOk mtab cX1_passSome RX1 ("passSome", []) 5 none q.1 q.2 := by
  unfold jcX1_passSome
  exact List.forall_mem_append.mpr ⟨okX1_passSome_p1, okX1_passSome_p2⟩
set_option maxRecDepth 20000 in
theorem okX1_quietMinutes_p1 : ∀ q ∈ jcX1_quietMinutes_p1, JOk mtab cX1_quietMinutes RX1 ("quietMinutes", []) 4 none q.1 q.2 := by
  unfold jcX1_quietMinutes_p1
  exact List.forall_mem_cons.mpr ⟨k_ald_n (show decode cX1_quietMinutes 0 = .ok (.aload_n 0, 1) by decide +kernel) rfl, List.forall_mem_cons.mpr ⟨k_getf (C := RX1) (T := TX1) (N := 10) (show decode cX1_quietMinutes 1 = .ok (.getfield 64, 3) by decide +kernel) rfl inX1 (by decide) (gw1 182 rfl rfl) (by decide), List.forall_mem_cons.mpr ⟨k_sipush (show decode cX1_quietMinutes 4 = .ok (.sipush 3000, 3) by decide +kernel) (by decide +kernel), List.forall_mem_cons.mpr ⟨k_iadd (show decode cX1_quietMinutes 7 = .ok (.iadd, 1) by decide +kernel), List.forall_mem_cons.mpr ⟨k_ist_n (show decode cX1_quietMinutes 8 = .ok (.istore_n 1, 1) by decide +kernel) rfl (by decide), List.forall_mem_cons.mpr ⟨k_iconst (show decode cX1_quietMinutes 9 = .ok (.iconst 0, 1) by decide +kernel) (by decide +kernel), List.forall_mem_cons.mpr ⟨k_ist_n (show decode cX1_quietMinutes 10 = .ok (.istore_n 2, 1) by decide +kernel) rfl (by decide), List.forall_mem_cons.mpr ⟨k_ild_n (show decode cX1_quietMinutes 11 = .ok (.iload_n 2, 1) by decide +kernel) rfl, List.forall_mem_cons.mpr ⟨k_ald_n (show decode cX1_quietMinutes 12 = .ok (.aload_n 0, 1) by decide +kernel) rfl, List.forall_mem_cons.mpr ⟨k_getf (C := RX1) (T := TX1) (N := 10) (show decode cX1_quietMinutes 13 = .ok (.getfield 47, 3) by decide +kernel) rfl inX1 (by decide) (gw1 178 rfl rfl) (by decide), List.forall_mem_cons.mpr ⟨k_icmp_ge (show decode cX1_quietMinutes 16 = .ok (.if_icmp .ge 41, 3) by decide +kernel) (by decide), List.forall_mem_cons.mpr ⟨k_ald_n (show decode cX1_quietMinutes 19 = .ok (.aload_n 0, 1) by decide +kernel) rfl, List.forall_mem_cons.mpr ⟨k_getf (C := RX1) (T := TX1) (N := 10) (show decode cX1_quietMinutes 20 = .ok (.getfield 19, 3) by decide +kernel) rfl inX1 (by decide) (gw1 171 rfl rfl) (by decide), List.forall_mem_cons.mpr ⟨k_ild_n (show decode cX1_quietMinutes 23 = .ok (.iload_n 2, 1) by decide +kernel) rfl, List.forall_mem_cons.mpr ⟨k_aald (show decode cX1_quietMinutes 24 = .ok (.aaload, 1) by decide +kernel) (by decide) rfl, List.forall_mem_cons.mpr ⟨k_getf (C := RX5) (T := TX5) (N := 5) (show decode cX1_quietMinutes 25 = .ok (.getfield 118, 3) by decide +kernel) rfl inX5 (by decide) (gw1 86 rfl rfl) (by decide), List.forall_mem_cons.mpr ⟨k_iconst (show decode cX1_quietMinutes 28 = .ok (.iconst (-1), 1) by decide +kernel) (by decide +kernel), List.forall_mem_cons.mpr ⟨k_icmp_eq (show decode cX1_quietMinutes 29 = .ok (.if_icmp .eq 22, 3) by decide +kernel) (by decide), List.forall_mem_cons.mpr ⟨k_ild_n (show decode cX1_quietMinutes 32 = .ok (.iload_n 1, 1) by decide +kernel) rfl, List.forall_mem_cons.mpr ⟨k_ald_n (show decode cX1_quietMinutes 33 = .ok (.aload_n 0, 1) by decide +kernel) rfl, List.forall_mem_cons.mpr ⟨k_getf (C := RX1) (T := TX1) (N := 10) (show decode cX1_quietMinutes 34 = .ok (.getfield 64, 3) by decide +kernel) rfl inX1 (by decide) (gw1 182 rfl rfl) (by decide), List.forall_mem_cons.mpr ⟨k_ald_n (show decode cX1_quietMinutes 37 = .ok (.aload_n 0, 1) by decide +kernel) rfl, List.forall_mem_cons.mpr ⟨k_getf (C := RX1) (T := TX1) (N := 10) (show decode cX1_quietMinutes 38 = .ok (.getfield 19, 3) by decide +kernel) rfl inX1 (by decide) (gw1 171 rfl rfl) (by decide), List.forall_mem_cons.mpr ⟨k_ild_n (show decode cX1_quietMinutes 41 = .ok (.iload_n 2, 1) by decide +kernel) rfl, List.forall_mem_cons.mpr ⟨k_aald (show decode cX1_quietMinutes 42 = .ok (.aaload, 1) by decide +kernel) (by decide) rfl, List.forall_mem_cons.mpr ⟨k_getf (C := RX5) (T := TX5) (N := 5) (show decode cX1_quietMinutes 43 = .ok (.getfield 120, 3) by decide +kernel) rfl inX5 (by decide) (gw1 88 rfl rfl) (by decide), List.forall_mem_cons.mpr ⟨k_iadd (show decode cX1_quietMinutes 46 = .ok (.iadd, 1) by decide +kernel), List.forall_mem_cons.mpr ⟨k_mmin (show decode cX1_quietMinutes 47 = .ok (.invokestatic 109, 3) by decide +kernel) (gw2 217 rfl rfl) (gw2 218 rfl rfl) (gw1 14 rfl rfl) (gw2 219 (by decide +kernel) rfl), List.forall_mem_cons.mpr ⟨k_ist_n (show decode cX1_quietMinutes 50 = .ok (.istore_n 1, 1) by decide +kernel) rfl (by decide), List.forall_mem_cons.mpr ⟨k_iinc (show decode cX1_quietMinutes 51 = .ok (.iinc 2 1, 3) by decide +kernel) (by decide +kernel) (by decide), List.forall_mem_cons.mpr ⟨k_goto (show decode cX1_quietMinutes 54 = .ok (.goto (-43), 3) by decide +kernel) (by decide), List.forall_mem_cons.mpr ⟨k_iconst (show decode cX1_quietMinutes 57 = .ok (.iconst 0, 1) by decide +kernel) (by decide +kernel), List.forall_mem_cons.mpr ⟨k_ist_n (show decode cX1_quietMinutes 58 = .ok (.istore_n 2, 1) by decide +kernel) rfl (by decide), List.forall_mem_cons.mpr ⟨k_ild_n (show decode cX1_quietMinutes 59 = .ok (.iload_n 2, 1) by decide +kernel) rfl, List.forall_mem_cons.mpr ⟨k_ald_n (show decode cX1_quietMinutes 60 = .ok (.aload_n 0, 1) by decide +kernel) rfl, List.forall_mem_cons.mpr ⟨k_getf (C := RX1) (T := TX1) (N := 10) (show decode cX1_quietMinutes 61 = .ok (.getfield 61, 3) by decide +kernel) rfl inX1 (by decide) (gw1 179 rfl rfl) (by decide), List.forall_mem_cons.mpr ⟨k_icmp_ge (show decode cX1_quietMinutes 64 = .ok (.if_icmp .ge 62, 3) by decide +kernel) (by decide), List.forall_mem_cons.mpr ⟨k_ald_n (show decode cX1_quietMinutes 67 = .ok (.aload_n 0, 1) by decide +kernel) rfl, List.forall_mem_cons.mpr ⟨k_getf (C := RX1) (T := TX1) (N := 10) (show decode cX1_quietMinutes 68 = .ok (.getfield 25, 3) by decide +kernel) rfl inX1 (by decide) (gw1 173 rfl rfl) (by decide), List.forall_mem_cons.mpr ⟨k_ild_n (show decode cX1_quietMinutes 71 = .ok (.iload_n 2, 1) by decide +kernel) rfl, fun _ h => absurd h List.not_mem_nil⟩⟩⟩⟩⟩⟩⟩⟩⟩⟩⟩⟩⟩⟩⟩⟩⟩⟩⟩⟩⟩⟩⟩⟩⟩⟩⟩⟩⟩⟩⟩⟩⟩⟩⟩⟩⟩⟩⟩⟩
set_option maxRecDepth 20000 in
theorem okX1_quietMinutes_p2 : ∀ q ∈ jcX1_quietMinutes_p2, JOk mtab cX1_quietMinutes RX1 ("quietMinutes", []) 4 none q.1 q.2 := by
  unfold jcX1_quietMinutes_p2
  exact List.forall_mem_cons.mpr ⟨k_aald (show decode cX1_quietMinutes 72 = .ok (.aaload, 1) by decide +kernel) (by decide) rfl, List.forall_mem_cons.mpr ⟨k_ast_n (show decode cX1_quietMinutes 73 = .ok (.astore_n 3, 1) by decide +kernel) rfl (by decide), List.forall_mem_cons.mpr ⟨k_ald_n (show decode cX1_quietMinutes 74 = .ok (.aload_n 3, 1) by decide +kernel) rfl, List.forall_mem_cons.mpr ⟨k_getf (C := RX0) (T := TX0) (N := 10) (show decode cX1_quietMinutes 75 = .ok (.getfield 127, 3) by decide +kernel) rfl inX0 (by decide) (gw1 122 rfl rfl) (by decide), List.forall_mem_cons.mpr ⟨k_if_ne (show decode cX1_quietMinutes 78 = .ok (.ifCond .ne 15, 3) by decide +kernel) (by decide), List.forall_mem_cons.mpr ⟨k_ild_n (show decode cX1_quietMinutes 81 = .ok (.iload_n 1, 1) by decide +kernel) rfl, List.forall_mem_cons.mpr ⟨k_ald_n (show decode cX1_quietMinutes 82 = .ok (.aload_n 3, 1) by decide +kernel) rfl, List.forall_mem_cons.mpr ⟨k_getf (C := RX0) (T := TX0) (N := 10) (show decode cX1_quietMinutes 83 = .ok (.getfield 130, 3) by decide +kernel) rfl inX0 (by decide) (gw1 115 rfl rfl) (by decide), List.forall_mem_cons.mpr ⟨k_mmin (show decode cX1_quietMinutes 86 = .ok (.invokestatic 109, 3) by decide +kernel) (gw2 217 rfl rfl) (gw2 218 rfl rfl) (gw1 14 rfl rfl) (gw2 219 (by decide +kernel) rfl), List.forall_mem_cons.mpr ⟨k_ist_n (show decode cX1_quietMinutes 89 = .ok (.istore_n 1, 1) by decide +kernel) rfl (by decide), List.forall_mem_cons.mpr ⟨k_goto (show decode cX1_quietMinutes 90 = .ok (.goto 30, 3) by decide +kernel) (by decide), List.forall_mem_cons.mpr ⟨k_ald_n (show decode cX1_quietMinutes 93 = .ok (.aload_n 3, 1) by decide +kernel) rfl, List.forall_mem_cons.mpr ⟨k_inv (M := mX0_isOnStandOrBay) (T := TX0) (N := 10) rfl rfl (show decode cX1_quietMinutes 94 = .ok (.invokevirtual 133, 3) by decide +kernel) rfl (by decide) (by decide +kernel) (by decide) (gw2 180 rfl rfl) (gw2 177 rfl rfl) (gw2 178 rfl rfl) (gw2 179 rfl rfl) (gw1 6 rfl rfl) (fun _ h => absurd h List.not_mem_nil), List.forall_mem_cons.mpr ⟨k_if_eq (show decode cX1_quietMinutes 97 = .ok (.ifCond .eq 23, 3) by decide +kernel) (by decide), List.forall_mem_cons.mpr ⟨k_ald_n (show decode cX1_quietMinutes 100 = .ok (.aload_n 3, 1) by decide +kernel) rfl, List.forall_mem_cons.mpr ⟨k_getf (C := RX0) (T := TX0) (N := 10) (show decode cX1_quietMinutes 101 = .ok (.getfield 137, 3) by decide +kernel) rfl inX0 (by decide) (gw1 118 rfl rfl) (by decide), List.forall_mem_cons.mpr ⟨k_ald_n (show decode cX1_quietMinutes 104 = .ok (.aload_n 0, 1) by decide +kernel) rfl, List.forall_mem_cons.mpr ⟨k_getf (C := RX1) (T := TX1) (N := 10) (show decode cX1_quietMinutes 105 = .ok (.getfield 64, 3) by decide +kernel) rfl inX1 (by decide) (gw1 182 rfl rfl) (by decide), List.forall_mem_cons.mpr ⟨k_icmp_le (show decode cX1_quietMinutes 108 = .ok (.if_icmp .le 12, 3) by decide +kernel) (by decide), List.forall_mem_cons.mpr ⟨k_ild_n (show decode cX1_quietMinutes 111 = .ok (.iload_n 1, 1) by decide +kernel) rfl, List.forall_mem_cons.mpr ⟨k_ald_n (show decode cX1_quietMinutes 112 = .ok (.aload_n 3, 1) by decide +kernel) rfl, List.forall_mem_cons.mpr ⟨k_getf (C := RX0) (T := TX0) (N := 10) (show decode cX1_quietMinutes 113 = .ok (.getfield 137, 3) by decide +kernel) rfl inX0 (by decide) (gw1 118 rfl rfl) (by decide), List.forall_mem_cons.mpr ⟨k_mmin (show decode cX1_quietMinutes 116 = .ok (.invokestatic 109, 3) by decide +kernel) (gw2 217 rfl rfl) (gw2 218 rfl rfl) (gw1 14 rfl rfl) (gw2 219 (by decide +kernel) rfl), List.forall_mem_cons.mpr ⟨k_ist_n (show decode cX1_quietMinutes 119 = .ok (.istore_n 1, 1) by decide +kernel) rfl (by decide), List.forall_mem_cons.mpr ⟨k_iinc (show decode cX1_quietMinutes 120 = .ok (.iinc 2 1, 3) by decide +kernel) (by decide +kernel) (by decide), List.forall_mem_cons.mpr ⟨k_goto (show decode cX1_quietMinutes 123 = .ok (.goto (-64), 3) by decide +kernel) (by decide), List.forall_mem_cons.mpr ⟨k_ald_n (show decode cX1_quietMinutes 126 = .ok (.aload_n 0, 1) by decide +kernel) rfl, List.forall_mem_cons.mpr ⟨k_inv (M := mX1_isCurfew) (T := TX1) (N := 10) rfl rfl (show decode cX1_quietMinutes 127 = .ok (.invokevirtual 140, 3) by decide +kernel) rfl (by decide) (by decide +kernel) (by decide) (gw2 192 rfl rfl) (gw2 189 rfl rfl) (gw2 191 rfl rfl) (gs1 10 rfl) (gw1 2 rfl rfl) (fun _ h => absurd h List.not_mem_nil), List.forall_mem_cons.mpr ⟨k_if_eq (show decode cX1_quietMinutes 130 = .ok (.ifCond .eq 26, 3) by decide +kernel) (by decide), List.forall_mem_cons.mpr ⟨k_ild_n (show decode cX1_quietMinutes 133 = .ok (.iload_n 1, 1) by decide +kernel) rfl, List.forall_mem_cons.mpr ⟨k_ald_n (show decode cX1_quietMinutes 134 = .ok (.aload_n 0, 1) by decide +kernel) rfl, List.forall_mem_cons.mpr ⟨k_getf (C := RX1) (T := TX1) (N := 10) (show decode cX1_quietMinutes 135 = .ok (.getfield 64, 3) by decide +kernel) rfl inX1 (by decide) (gw1 182 rfl rfl) (by decide), List.forall_mem_cons.mpr ⟨k_ald_n (show decode cX1_quietMinutes 138 = .ok (.aload_n 0, 1) by decide +kernel) rfl, List.forall_mem_cons.mpr ⟨k_getf (C := RX1) (T := TX1) (N := 10) (show decode cX1_quietMinutes 139 = .ok (.getfield 64, 3) by decide +kernel) rfl inX1 (by decide) (gw1 182 rfl rfl) (by decide), List.forall_mem_cons.mpr ⟨k_sipush (show decode cX1_quietMinutes 142 = .ok (.sipush 1440, 3) by decide +kernel) (by decide +kernel), List.forall_mem_cons.mpr ⟨k_irem (show decode cX1_quietMinutes 145 = .ok (.irem, 1) by decide +kernel), List.forall_mem_cons.mpr ⟨k_isub (show decode cX1_quietMinutes 146 = .ok (.isub, 1) by decide +kernel), List.forall_mem_cons.mpr ⟨k_ald_n (show decode cX1_quietMinutes 147 = .ok (.aload_n 0, 1) by decide +kernel) rfl, List.forall_mem_cons.mpr ⟨k_getf (C := RX1) (T := TX1) (N := 10) (show decode cX1_quietMinutes 148 = .ok (.getfield 73, 3) by decide +kernel) rfl inX1 (by decide) (gw1 185 rfl rfl) (by decide), List.forall_mem_cons.mpr ⟨k_iadd (show decode cX1_quietMinutes 151 = .ok (.iadd, 1) by decide +kernel), fun _ h => absurd h List.not_mem_nil⟩⟩⟩⟩⟩⟩⟩⟩⟩⟩⟩⟩⟩⟩⟩⟩⟩⟩⟩⟩⟩⟩⟩⟩⟩⟩⟩⟩⟩⟩⟩⟩⟩⟩⟩⟩⟩⟩⟩⟩
set_option maxRecDepth 20000 in
theorem okX1_quietMinutes_p3 : ∀ q ∈ jcX1_quietMinutes_p3, JOk mtab cX1_quietMinutes RX1 ("quietMinutes", []) 4 none q.1 q.2 := by
  unfold jcX1_quietMinutes_p3
  exact List.forall_mem_cons.mpr ⟨k_mmin (show decode cX1_quietMinutes 152 = .ok (.invokestatic 109, 3) by decide +kernel) (gw2 217 rfl rfl) (gw2 218 rfl rfl) (gw1 14 rfl rfl) (gw2 219 (by decide +kernel) rfl), List.forall_mem_cons.mpr ⟨k_ist_n (show decode cX1_quietMinutes 155 = .ok (.istore_n 1, 1) by decide +kernel) rfl (by decide), List.forall_mem_cons.mpr ⟨k_ild_n (show decode cX1_quietMinutes 156 = .ok (.iload_n 1, 1) by decide +kernel) rfl, List.forall_mem_cons.mpr ⟨k_ald_n (show decode cX1_quietMinutes 157 = .ok (.aload_n 0, 1) by decide +kernel) rfl, List.forall_mem_cons.mpr ⟨k_getf (C := RX1) (T := TX1) (N := 10) (show decode cX1_quietMinutes 158 = .ok (.getfield 64, 3) by decide +kernel) rfl inX1 (by decide) (gw1 182 rfl rfl) (by decide), List.forall_mem_cons.mpr ⟨k_isub (show decode cX1_quietMinutes 161 = .ok (.isub, 1) by decide +kernel), List.forall_mem_cons.mpr ⟨k_iconst (show decode cX1_quietMinutes 162 = .ok (.iconst 1, 1) by decide +kernel) (by decide +kernel), List.forall_mem_cons.mpr ⟨k_isub (show decode cX1_quietMinutes 163 = .ok (.isub, 1) by decide +kernel), List.forall_mem_cons.mpr ⟨k_iret (show decode cX1_quietMinutes 164 = .ok (.ireturn, 1) by decide +kernel), fun _ h => absurd h List.not_mem_nil⟩⟩⟩⟩⟩⟩⟩⟩⟩
theorem okX1_quietMinutes : ∀ q ∈ jcX1_quietMinutes, JOk mtab cX1_quietMinutes RX1 ("quietMinutes", []) 4 none q.1 q.2 := by
  unfold jcX1_quietMinutes
  exact List.forall_mem_append.mpr ⟨okX1_quietMinutes_p1, List.forall_mem_append.mpr ⟨okX1_quietMinutes_p2, okX1_quietMinutes_p3⟩⟩
set_option maxRecDepth 20000 in
theorem okX1_workTugs : ∀ q ∈ jcX1_workTugs, JOk mtab cX1_workTugs RX1 ("workTugs", []) 3 none q.1 q.2 := by
  unfold jcX1_workTugs
  exact List.forall_mem_cons.mpr ⟨k_iconst (show decode cX1_workTugs 0 = .ok (.iconst 0, 1) by decide +kernel) (by decide +kernel), List.forall_mem_cons.mpr ⟨k_ist_n (show decode cX1_workTugs 1 = .ok (.istore_n 1, 1) by decide +kernel) rfl (by decide), List.forall_mem_cons.mpr ⟨k_ild_n (show decode cX1_workTugs 2 = .ok (.iload_n 1, 1) by decide +kernel) rfl, List.forall_mem_cons.mpr ⟨k_ald_n (show decode cX1_workTugs 3 = .ok (.aload_n 0, 1) by decide +kernel) rfl, List.forall_mem_cons.mpr ⟨k_getf (C := RX1) (T := TX1) (N := 10) (show decode cX1_workTugs 4 = .ok (.getfield 47, 3) by decide +kernel) rfl inX1 (by decide) (gw1 178 rfl rfl) (by decide), List.forall_mem_cons.mpr ⟨k_icmp_ge (show decode cX1_workTugs 7 = .ok (.if_icmp .ge 54, 3) by decide +kernel) (by decide), List.forall_mem_cons.mpr ⟨k_ald_n (show decode cX1_workTugs 10 = .ok (.aload_n 0, 1) by decide +kernel) rfl, List.forall_mem_cons.mpr ⟨k_getf (C := RX1) (T := TX1) (N := 10) (show decode cX1_workTugs 11 = .ok (.getfield 19, 3) by decide +kernel) rfl inX1 (by decide) (gw1 171 rfl rfl) (by decide), List.forall_mem_cons.mpr ⟨k_ild_n (show decode cX1_workTugs 14 = .ok (.iload_n 1, 1) by decide +kernel) rfl, List.forall_mem_cons.mpr ⟨k_aald (show decode cX1_workTugs 15 = .ok (.aaload, 1) by decide +kernel) (by decide) rfl, List.forall_mem_cons.mpr ⟨k_ast_n (show decode cX1_workTugs 16 = .ok (.astore_n 2, 1) by decide +kernel) rfl (by decide), List.forall_mem_cons.mpr ⟨k_ald_n (show decode cX1_workTugs 17 = .ok (.aload_n 2, 1) by decide +kernel) rfl, List.forall_mem_cons.mpr ⟨k_getf (C := RX5) (T := TX5) (N := 5) (show decode cX1_workTugs 18 = .ok (.getfield 118, 3) by decide +kernel) rfl inX5 (by decide) (gw1 86 rfl rfl) (by decide), List.forall_mem_cons.mpr ⟨k_iconst (show decode cX1_workTugs 21 = .ok (.iconst (-1), 1) by decide +kernel) (by decide +kernel), List.forall_mem_cons.mpr ⟨k_icmp_eq (show decode cX1_workTugs 22 = .ok (.if_icmp .eq 33, 3) by decide +kernel) (by decide), List.forall_mem_cons.mpr ⟨k_ald_n (show decode cX1_workTugs 25 = .ok (.aload_n 2, 1) by decide +kernel) rfl, List.forall_mem_cons.mpr ⟨k_dup (show decode cX1_workTugs 26 = .ok (.dup, 1) by decide +kernel), List.forall_mem_cons.mpr ⟨k_getf (C := RX5) (T := TX5) (N := 5) (show decode cX1_workTugs 27 = .ok (.getfield 120, 3) by decide +kernel) rfl inX5 (by decide) (gw1 88 rfl rfl) (by decide), List.forall_mem_cons.mpr ⟨k_iconst (show decode cX1_workTugs 30 = .ok (.iconst 1, 1) by decide +kernel) (by decide +kernel), List.forall_mem_cons.mpr ⟨k_isub (show decode cX1_workTugs 31 = .ok (.isub, 1) by decide +kernel), List.forall_mem_cons.mpr ⟨k_puti (C := RX5) (T := TX5) (N := 5) (show decode cX1_workTugs 32 = .ok (.putfield 120, 3) by decide +kernel) rfl inX5 tyX5_ok nmX5 (by decide) rfl rfl (gw1 88 rfl rfl) (by decide), List.forall_mem_cons.mpr ⟨k_ald_n (show decode cX1_workTugs 35 = .ok (.aload_n 2, 1) by decide +kernel) rfl, List.forall_mem_cons.mpr ⟨k_getf (C := RX5) (T := TX5) (N := 5) (show decode cX1_workTugs 36 = .ok (.getfield 120, 3) by decide +kernel) rfl inX5 (by decide) (gw1 88 rfl rfl) (by decide), List.forall_mem_cons.mpr ⟨k_if_ne (show decode cX1_workTugs 39 = .ok (.ifCond .ne 16, 3) by decide +kernel) (by decide), List.forall_mem_cons.mpr ⟨k_ald_n (show decode cX1_workTugs 42 = .ok (.aload_n 0, 1) by decide +kernel) rfl, List.forall_mem_cons.mpr ⟨k_ald_n (show decode cX1_workTugs 43 = .ok (.aload_n 2, 1) by decide +kernel) rfl, List.forall_mem_cons.mpr ⟨k_getf (C := RX5) (T := TX5) (N := 5) (show decode cX1_workTugs 44 = .ok (.getfield 118, 3) by decide +kernel) rfl inX5 (by decide) (gw1 86 rfl rfl) (by decide), List.forall_mem_cons.mpr ⟨k_inv (M := mX1_finish) (T := TX1) (N := 10) rfl rfl (show decode cX1_workTugs 47 = .ok (.invokevirtual 143, 3) by decide +kernel) rfl (by decide) (by decide +kernel) (by decide) (gw2 152 rfl rfl) (gw2 149 rfl rfl) (gw2 151 rfl rfl) (gs1 4 rfl) (gw1 2 rfl rfl) (fun _ h => absurd h List.not_mem_nil), List.forall_mem_cons.mpr ⟨k_ald_n (show decode cX1_workTugs 50 = .ok (.aload_n 2, 1) by decide +kernel) rfl, List.forall_mem_cons.mpr ⟨k_iconst (show decode cX1_workTugs 51 = .ok (.iconst (-1), 1) by decide +kernel) (by decide +kernel), List.forall_mem_cons.mpr ⟨k_puti (C := RX5) (T := TX5) (N := 5) (show decode cX1_workTugs 52 = .ok (.putfield 118, 3) by decide +kernel) rfl inX5 tyX5_ok nmX5 (by decide) rfl rfl (gw1 86 rfl rfl) (by decide), List.forall_mem_cons.mpr ⟨k_iinc (show decode cX1_workTugs 55 = .ok (.iinc 1 1, 3) by decide +kernel) (by decide +kernel) (by decide), List.forall_mem_cons.mpr ⟨k_goto (show decode cX1_workTugs 58 = .ok (.goto (-56), 3) by decide +kernel) (by decide), List.forall_mem_cons.mpr ⟨k_vret (show decode cX1_workTugs 61 = .ok (.return_, 1) by decide +kernel), fun _ h => absurd h List.not_mem_nil⟩⟩⟩⟩⟩⟩⟩⟩⟩⟩⟩⟩⟩⟩⟩⟩⟩⟩⟩⟩⟩⟩⟩⟩⟩⟩⟩⟩⟩⟩⟩⟩⟩⟩
set_option maxRecDepth 20000 in
theorem okX1_finish : ∀ q ∈ jcX1_finish, JOk mtab cX1_finish RX1 ("finish", []) 3 none q.1 q.2 := by
  unfold jcX1_finish
  exact List.forall_mem_cons.mpr ⟨k_ald_n (show decode cX1_finish 0 = .ok (.aload_n 0, 1) by decide +kernel) rfl, List.forall_mem_cons.mpr ⟨k_getf (C := RX1) (T := TX1) (N := 10) (show decode cX1_finish 1 = .ok (.getfield 25, 3) by decide +kernel) rfl inX1 (by decide) (gw1 173 rfl rfl) (by decide), List.forall_mem_cons.mpr ⟨k_ild_n (show decode cX1_finish 4 = .ok (.iload_n 1, 1) by decide +kernel) rfl, List.forall_mem_cons.mpr ⟨k_aald (show decode cX1_finish 5 = .ok (.aaload, 1) by decide +kernel) (by decide) rfl, List.forall_mem_cons.mpr ⟨k_ast_n (show decode cX1_finish 6 = .ok (.astore_n 2, 1) by decide +kernel) rfl (by decide), List.forall_mem_cons.mpr ⟨k_ald_n (show decode cX1_finish 7 = .ok (.aload_n 2, 1) by decide +kernel) rfl, List.forall_mem_cons.mpr ⟨k_getf (C := RX0) (T := TX0) (N := 10) (show decode cX1_finish 8 = .ok (.getfield 127, 3) by decide +kernel) rfl inX0 (by decide) (gw1 122 rfl rfl) (by decide), List.forall_mem_cons.mpr ⟨k_iconst (show decode cX1_finish 11 = .ok (.iconst 3, 1) by decide +kernel) (by decide +kernel), List.forall_mem_cons.mpr ⟨k_icmp_ne (show decode cX1_finish 12 = .ok (.if_icmp .ne 23, 3) by decide +kernel) (by decide), List.forall_mem_cons.mpr ⟨k_ald_n (show decode cX1_finish 15 = .ok (.aload_n 2, 1) by decide +kernel) rfl, List.forall_mem_cons.mpr ⟨k_iconst (show decode cX1_finish 16 = .ok (.iconst 1, 1) by decide +kernel) (by decide +kernel), List.forall_mem_cons.mpr ⟨k_puti (C := RX0) (T := TX0) (N := 10) (show decode cX1_finish 17 = .ok (.putfield 127, 3) by decide +kernel) rfl inX0 tyX0_ok nmX0 (by decide) rfl rfl (gw1 122 rfl rfl) (by decide), List.forall_mem_cons.mpr ⟨k_ald_n (show decode cX1_finish 20 = .ok (.aload_n 0, 1) by decide +kernel) rfl, List.forall_mem_cons.mpr ⟨k_getf (C := RX1) (T := TX1) (N := 10) (show decode cX1_finish 21 = .ok (.getfield 32, 3) by decide +kernel) rfl inX1 (by decide) (gw1 175 rfl rfl) (by decide), List.forall_mem_cons.mpr ⟨k_bipush (show decode cX1_finish 24 = .ok (.bipush 6, 2) by decide +kernel) (by decide +kernel), List.forall_mem_cons.mpr ⟨k_ald_n (show decode cX1_finish 26 = .ok (.aload_n 0, 1) by decide +kernel) rfl, List.forall_mem_cons.mpr ⟨k_getf (C := RX1) (T := TX1) (N := 10) (show decode cX1_finish 27 = .ok (.getfield 64, 3) by decide +kernel) rfl inX1 (by decide) (gw1 182 rfl rfl) (by decide), List.forall_mem_cons.mpr ⟨k_ild_n (show decode cX1_finish 30 = .ok (.iload_n 1, 1) by decide +kernel) rfl, List.forall_mem_cons.mpr ⟨k_inv (M := mX2_put) (T := TX2) (N := 4) rfl rfl (show decode cX1_finish 31 = .ok (.invokevirtual 146, 3) by decide +kernel) rfl (by decide) (by decide +kernel) (by decide) (gw2 156 rfl rfl) (gw2 153 rfl rfl) (gw2 154 rfl rfl) (gw2 155 rfl rfl) (gw1 3 rfl rfl) (fun _ h => absurd h List.not_mem_nil), List.forall_mem_cons.mpr ⟨k_vret (show decode cX1_finish 34 = .ok (.return_, 1) by decide +kernel), List.forall_mem_cons.mpr ⟨k_ald_n (show decode cX1_finish 35 = .ok (.aload_n 2, 1) by decide +kernel) rfl, List.forall_mem_cons.mpr ⟨k_iconst (show decode cX1_finish 36 = .ok (.iconst 5, 1) by decide +kernel) (by decide +kernel), List.forall_mem_cons.mpr ⟨k_puti (C := RX0) (T := TX0) (N := 10) (show decode cX1_finish 37 = .ok (.putfield 127, 3) by decide +kernel) rfl inX0 tyX0_ok nmX0 (by decide) rfl rfl (gw1 122 rfl rfl) (by decide), List.forall_mem_cons.mpr ⟨k_ald_n (show decode cX1_finish 40 = .ok (.aload_n 2, 1) by decide +kernel) rfl, List.forall_mem_cons.mpr ⟨k_getf (C := RX0) (T := TX0) (N := 10) (show decode cX1_finish 41 = .ok (.getfield 150, 3) by decide +kernel) rfl inX0 (by decide) (gw1 124 rfl rfl) (by decide), List.forall_mem_cons.mpr ⟨k_iconst (show decode cX1_finish 44 = .ok (.iconst (-1), 1) by decide +kernel) (by decide +kernel), List.forall_mem_cons.mpr ⟨k_icmp_eq (show decode cX1_finish 45 = .ok (.if_icmp .eq 21, 3) by decide +kernel) (by decide), List.forall_mem_cons.mpr ⟨k_ald_n (show decode cX1_finish 48 = .ok (.aload_n 0, 1) by decide +kernel) rfl, List.forall_mem_cons.mpr ⟨k_getf (C := RX1) (T := TX1) (N := 10) (show decode cX1_finish 49 = .ok (.getfield 11, 3) by decide +kernel) rfl inX1 (by decide) (gw1 169 rfl rfl) (by decide), List.forall_mem_cons.mpr ⟨k_ald_n (show decode cX1_finish 52 = .ok (.aload_n 2, 1) by decide +kernel) rfl, List.forall_mem_cons.mpr ⟨k_getf (C := RX0) (T := TX0) (N := 10) (show decode cX1_finish 53 = .ok (.getfield 150, 3) by decide +kernel) rfl inX0 (by decide) (gw1 124 rfl rfl) (by decide), List.forall_mem_cons.mpr ⟨k_aald (show decode cX1_finish 56 = .ok (.aaload, 1) by decide +kernel) (by decide) rfl, List.forall_mem_cons.mpr ⟨k_iconst (show decode cX1_finish 57 = .ok (.iconst (-1), 1) by decide +kernel) (by decide +kernel), List.forall_mem_cons.mpr ⟨k_puti (C := RX3) (T := TX3) (N := 3) (show decode cX1_finish 58 = .ok (.putfield 153, 3) by decide +kernel) rfl inX3 tyX3_ok nmX3 (by decide) rfl rfl (gw1 66 rfl rfl) (by decide), List.forall_mem_cons.mpr ⟨k_ald_n (show decode cX1_finish 61 = .ok (.aload_n 2, 1) by decide +kernel) rfl, List.forall_mem_cons.mpr ⟨k_iconst (show decode cX1_finish 62 = .ok (.iconst (-1), 1) by decide +kernel) (by decide +kernel), List.forall_mem_cons.mpr ⟨k_puti (C := RX0) (T := TX0) (N := 10) (show decode cX1_finish 63 = .ok (.putfield 150, 3) by decide +kernel) rfl inX0 tyX0_ok nmX0 (by decide) rfl rfl (gw1 124 rfl rfl) (by decide), List.forall_mem_cons.mpr ⟨k_ald_n (show decode cX1_finish 66 = .ok (.aload_n 0, 1) by decide +kernel) rfl, List.forall_mem_cons.mpr ⟨k_getf (C := RX1) (T := TX1) (N := 10) (show decode cX1_finish 67 = .ok (.getfield 32, 3) by decide +kernel) rfl inX1 (by decide) (gw1 175 rfl rfl) (by decide), List.forall_mem_cons.mpr ⟨k_iconst (show decode cX1_finish 70 = .ok (.iconst 4, 1) by decide +kernel) (by decide +kernel), List.forall_mem_cons.mpr ⟨k_ald_n (show decode cX1_finish 71 = .ok (.aload_n 0, 1) by decide +kernel) rfl, List.forall_mem_cons.mpr ⟨k_getf (C := RX1) (T := TX1) (N := 10) (show decode cX1_finish 72 = .ok (.getfield 64, 3) by decide +kernel) rfl inX1 (by decide) (gw1 182 rfl rfl) (by decide), List.forall_mem_cons.mpr ⟨k_ild_n (show decode cX1_finish 75 = .ok (.iload_n 1, 1) by decide +kernel) rfl, List.forall_mem_cons.mpr ⟨k_inv (M := mX2_put) (T := TX2) (N := 4) rfl rfl (show decode cX1_finish 76 = .ok (.invokevirtual 146, 3) by decide +kernel) rfl (by decide) (by decide +kernel) (by decide) (gw2 156 rfl rfl) (gw2 153 rfl rfl) (gw2 154 rfl rfl) (gw2 155 rfl rfl) (gw1 3 rfl rfl) (fun _ h => absurd h List.not_mem_nil), List.forall_mem_cons.mpr ⟨k_vret (show decode cX1_finish 79 = .ok (.return_, 1) by decide +kernel), fun _ h => absurd h List.not_mem_nil⟩⟩⟩⟩⟩⟩⟩⟩⟩⟩⟩⟩⟩⟩⟩⟩⟩⟩⟩⟩⟩⟩⟩⟩⟩⟩⟩⟩⟩⟩⟩⟩⟩⟩⟩⟩⟩⟩⟩⟩⟩⟩⟩⟩⟩
set_option maxRecDepth 20000 in
theorem okX1_receive_p1 : ∀ q ∈ jcX1_receive_p1, JOk mtab cX1_receive RX1 ("receive", []) 4 none q.1 q.2 := by
  unfold jcX1_receive_p1
  exact List.forall_mem_cons.mpr ⟨k_iconst (show decode cX1_receive 0 = .ok (.iconst 0, 1) by decide +kernel) (by decide +kernel), List.forall_mem_cons.mpr ⟨k_ist_n (show decode cX1_receive 1 = .ok (.istore_n 1, 1) by decide +kernel) rfl (by decide), List.forall_mem_cons.mpr ⟨k_ild_n (show decode cX1_receive 2 = .ok (.iload_n 1, 1) by decide +kernel) rfl, List.forall_mem_cons.mpr ⟨k_ald_n (show decode cX1_receive 3 = .ok (.aload_n 0, 1) by decide +kernel) rfl, List.forall_mem_cons.mpr ⟨k_getf (C := RX1) (T := TX1) (N := 10) (show decode cX1_receive 4 = .ok (.getfield 61, 3) by decide +kernel) rfl inX1 (by decide) (gw1 179 rfl rfl) (by decide), List.forall_mem_cons.mpr ⟨k_icmp_ge (show decode cX1_receive 7 = .ok (.if_icmp .ge 106, 3) by decide +kernel) (by decide), List.forall_mem_cons.mpr ⟨k_ald_n (show decode cX1_receive 10 = .ok (.aload_n 0, 1) by decide +kernel) rfl, List.forall_mem_cons.mpr ⟨k_getf (C := RX1) (T := TX1) (N := 10) (show decode cX1_receive 11 = .ok (.getfield 25, 3) by decide +kernel) rfl inX1 (by decide) (gw1 173 rfl rfl) (by decide), List.forall_mem_cons.mpr ⟨k_ild_n (show decode cX1_receive 14 = .ok (.iload_n 1, 1) by decide +kernel) rfl, List.forall_mem_cons.mpr ⟨k_aald (show decode cX1_receive 15 = .ok (.aaload, 1) by decide +kernel) (by decide) rfl, List.forall_mem_cons.mpr ⟨k_ast_n (show decode cX1_receive 16 = .ok (.astore_n 2, 1) by decide +kernel) rfl (by decide), List.forall_mem_cons.mpr ⟨k_ald_n (show decode cX1_receive 17 = .ok (.aload_n 2, 1) by decide +kernel) rfl, List.forall_mem_cons.mpr ⟨k_getf (C := RX0) (T := TX0) (N := 10) (show decode cX1_receive 18 = .ok (.getfield 127, 3) by decide +kernel) rfl inX0 (by decide) (gw1 122 rfl rfl) (by decide), List.forall_mem_cons.mpr ⟨k_if_ne (show decode cX1_receive 21 = .ok (.ifCond .ne 86, 3) by decide +kernel) (by decide), List.forall_mem_cons.mpr ⟨k_ald_n (show decode cX1_receive 24 = .ok (.aload_n 2, 1) by decide +kernel) rfl, List.forall_mem_cons.mpr ⟨k_getf (C := RX0) (T := TX0) (N := 10) (show decode cX1_receive 25 = .ok (.getfield 130, 3) by decide +kernel) rfl inX0 (by decide) (gw1 115 rfl rfl) (by decide), List.forall_mem_cons.mpr ⟨k_ald_n (show decode cX1_receive 28 = .ok (.aload_n 0, 1) by decide +kernel) rfl, List.forall_mem_cons.mpr ⟨k_getf (C := RX1) (T := TX1) (N := 10) (show decode cX1_receive 29 = .ok (.getfield 64, 3) by decide +kernel) rfl inX1 (by decide) (gw1 182 rfl rfl) (by decide), List.forall_mem_cons.mpr ⟨k_icmp_gt (show decode cX1_receive 32 = .ok (.if_icmp .gt 75, 3) by decide +kernel) (by decide), List.forall_mem_cons.mpr ⟨k_ald_n (show decode cX1_receive 35 = .ok (.aload_n 0, 1) by decide +kernel) rfl, List.forall_mem_cons.mpr ⟨k_ald_n (show decode cX1_receive 36 = .ok (.aload_n 2, 1) by decide +kernel) rfl, List.forall_mem_cons.mpr ⟨k_getf (C := RX0) (T := TX0) (N := 10) (show decode cX1_receive 37 = .ok (.getfield 154, 3) by decide +kernel) rfl inX0 (by decide) (gw1 110 rfl rfl) (by decide), List.forall_mem_cons.mpr ⟨k_inv (M := mX1_freeStandFor) (T := TX1) (N := 10) rfl rfl (show decode cX1_receive 40 = .ok (.invokevirtual 155, 3) by decide +kernel) rfl (by decide) (by decide +kernel) (by decide) (gw2 164 rfl rfl) (gw2 161 rfl rfl) (gw2 163 rfl rfl) (gs1 6 rfl) (gw1 2 rfl rfl) (fun _ h => absurd h List.not_mem_nil), List.forall_mem_cons.mpr ⟨k_ist_n (show decode cX1_receive 43 = .ok (.istore_n 3, 1) by decide +kernel) rfl (by decide), List.forall_mem_cons.mpr ⟨k_ild_n (show decode cX1_receive 44 = .ok (.iload_n 3, 1) by decide +kernel) rfl, List.forall_mem_cons.mpr ⟨k_iconst (show decode cX1_receive 45 = .ok (.iconst (-1), 1) by decide +kernel) (by decide +kernel), List.forall_mem_cons.mpr ⟨k_icmp_ne (show decode cX1_receive 46 = .ok (.if_icmp .ne 28, 3) by decide +kernel) (by decide), List.forall_mem_cons.mpr ⟨k_ald_n (show decode cX1_receive 49 = .ok (.aload_n 2, 1) by decide +kernel) rfl, List.forall_mem_cons.mpr ⟨k_iconst (show decode cX1_receive 50 = .ok (.iconst 2, 1) by decide +kernel) (by decide +kernel), List.forall_mem_cons.mpr ⟨k_puti (C := RX0) (T := TX0) (N := 10) (show decode cX1_receive 51 = .ok (.putfield 127, 3) by decide +kernel) rfl inX0 tyX0_ok nmX0 (by decide) rfl rfl (gw1 122 rfl rfl) (by decide), List.forall_mem_cons.mpr ⟨k_ald_n (show decode cX1_receive 54 = .ok (.aload_n 2, 1) by decide +kernel) rfl, List.forall_mem_cons.mpr ⟨k_inv (M := mX0_takeBuses) (T := TX0) (N := 10) rfl rfl (show decode cX1_receive 55 = .ok (.invokevirtual 159, 3) by decide +kernel) rfl (by decide) (by decide +kernel) (by decide) (gw2 168 rfl rfl) (gw2 165 rfl rfl) (gw2 166 rfl rfl) (gw2 167 rfl rfl) (gw1 6 rfl rfl) (fun _ h => absurd h List.not_mem_nil), List.forall_mem_cons.mpr ⟨k_ald_n (show decode cX1_receive 58 = .ok (.aload_n 0, 1) by decide +kernel) rfl, List.forall_mem_cons.mpr ⟨k_getf (C := RX1) (T := TX1) (N := 10) (show decode cX1_receive 59 = .ok (.getfield 32, 3) by decide +kernel) rfl inX1 (by decide) (gw1 175 rfl rfl) (by decide), List.forall_mem_cons.mpr ⟨k_iconst (show decode cX1_receive 62 = .ok (.iconst 2, 1) by decide +kernel) (by decide +kernel), List.forall_mem_cons.mpr ⟨k_ald_n (show decode cX1_receive 63 = .ok (.aload_n 0, 1) by decide +kernel) rfl, List.forall_mem_cons.mpr ⟨k_getf (C := RX1) (T := TX1) (N := 10) (show decode cX1_receive 64 = .ok (.getfield 64, 3) by decide +kernel) rfl inX1 (by decide) (gw1 182 rfl rfl) (by decide), List.forall_mem_cons.mpr ⟨k_ild_n (show decode cX1_receive 67 = .ok (.iload_n 1, 1) by decide +kernel) rfl, List.forall_mem_cons.mpr ⟨k_inv (M := mX2_put) (T := TX2) (N := 4) rfl rfl (show decode cX1_receive 68 = .ok (.invokevirtual 146, 3) by decide +kernel) rfl (by decide) (by decide +kernel) (by decide) (gw2 156 rfl rfl) (gw2 153 rfl rfl) (gw2 154 rfl rfl) (gw2 155 rfl rfl) (gw1 3 rfl rfl) (fun _ h => absurd h List.not_mem_nil), List.forall_mem_cons.mpr ⟨k_goto (show decode cX1_receive 71 = .ok (.goto 36, 3) by decide +kernel) (by decide), fun _ h => absurd h List.not_mem_nil⟩⟩⟩⟩⟩⟩⟩⟩⟩⟩⟩⟩⟩⟩⟩⟩⟩⟩⟩⟩⟩⟩⟩⟩⟩⟩⟩⟩⟩⟩⟩⟩⟩⟩⟩⟩⟩⟩⟩⟩
set_option maxRecDepth 20000 in
theorem okX1_receive_p2 : ∀ q ∈ jcX1_receive_p2, JOk mtab cX1_receive RX1 ("receive", []) 4 none q.1 q.2 := by
  unfold jcX1_receive_p2
  exact List.forall_mem_cons.mpr ⟨k_ald_n (show decode cX1_receive 74 = .ok (.aload_n 2, 1) by decide +kernel) rfl, List.forall_mem_cons.mpr ⟨k_iconst (show decode cX1_receive 75 = .ok (.iconst 1, 1) by decide +kernel) (by decide +kernel), List.forall_mem_cons.mpr ⟨k_puti (C := RX0) (T := TX0) (N := 10) (show decode cX1_receive 76 = .ok (.putfield 127, 3) by decide +kernel) rfl inX0 tyX0_ok nmX0 (by decide) rfl rfl (gw1 122 rfl rfl) (by decide), List.forall_mem_cons.mpr ⟨k_ald_n (show decode cX1_receive 79 = .ok (.aload_n 2, 1) by decide +kernel) rfl, List.forall_mem_cons.mpr ⟨k_ild_n (show decode cX1_receive 80 = .ok (.iload_n 3, 1) by decide +kernel) rfl, List.forall_mem_cons.mpr ⟨k_puti (C := RX0) (T := TX0) (N := 10) (show decode cX1_receive 81 = .ok (.putfield 150, 3) by decide +kernel) rfl inX0 tyX0_ok nmX0 (by decide) rfl rfl (gw1 124 rfl rfl) (by decide), List.forall_mem_cons.mpr ⟨k_ald_n (show decode cX1_receive 84 = .ok (.aload_n 0, 1) by decide +kernel) rfl, List.forall_mem_cons.mpr ⟨k_getf (C := RX1) (T := TX1) (N := 10) (show decode cX1_receive 85 = .ok (.getfield 11, 3) by decide +kernel) rfl inX1 (by decide) (gw1 169 rfl rfl) (by decide), List.forall_mem_cons.mpr ⟨k_ild_n (show decode cX1_receive 88 = .ok (.iload_n 3, 1) by decide +kernel) rfl, List.forall_mem_cons.mpr ⟨k_aald (show decode cX1_receive 89 = .ok (.aaload, 1) by decide +kernel) (by decide) rfl, List.forall_mem_cons.mpr ⟨k_ild_n (show decode cX1_receive 90 = .ok (.iload_n 1, 1) by decide +kernel) rfl, List.forall_mem_cons.mpr ⟨k_puti (C := RX3) (T := TX3) (N := 3) (show decode cX1_receive 91 = .ok (.putfield 153, 3) by decide +kernel) rfl inX3 tyX3_ok nmX3 (by decide) rfl rfl (gw1 66 rfl rfl) (by decide), List.forall_mem_cons.mpr ⟨k_ald_n (show decode cX1_receive 94 = .ok (.aload_n 0, 1) by decide +kernel) rfl, List.forall_mem_cons.mpr ⟨k_getf (C := RX1) (T := TX1) (N := 10) (show decode cX1_receive 95 = .ok (.getfield 32, 3) by decide +kernel) rfl inX1 (by decide) (gw1 175 rfl rfl) (by decide), List.forall_mem_cons.mpr ⟨k_iconst (show decode cX1_receive 98 = .ok (.iconst 1, 1) by decide +kernel) (by decide +kernel), List.forall_mem_cons.mpr ⟨k_ald_n (show decode cX1_receive 99 = .ok (.aload_n 0, 1) by decide +kernel) rfl, List.forall_mem_cons.mpr ⟨k_getf (C := RX1) (T := TX1) (N := 10) (show decode cX1_receive 100 = .ok (.getfield 64, 3) by decide +kernel) rfl inX1 (by decide) (gw1 182 rfl rfl) (by decide), List.forall_mem_cons.mpr ⟨k_ild_n (show decode cX1_receive 103 = .ok (.iload_n 1, 1) by decide +kernel) rfl, List.forall_mem_cons.mpr ⟨k_inv (M := mX2_put) (T := TX2) (N := 4) rfl rfl (show decode cX1_receive 104 = .ok (.invokevirtual 146, 3) by decide +kernel) rfl (by decide) (by decide +kernel) (by decide) (gw2 156 rfl rfl) (gw2 153 rfl rfl) (gw2 154 rfl rfl) (gw2 155 rfl rfl) (gw1 3 rfl rfl) (fun _ h => absurd h List.not_mem_nil), List.forall_mem_cons.mpr ⟨k_iinc (show decode cX1_receive 107 = .ok (.iinc 1 1, 3) by decide +kernel) (by decide +kernel) (by decide), List.forall_mem_cons.mpr ⟨k_goto (show decode cX1_receive 110 = .ok (.goto (-108), 3) by decide +kernel) (by decide), List.forall_mem_cons.mpr ⟨k_vret (show decode cX1_receive 113 = .ok (.return_, 1) by decide +kernel), fun _ h => absurd h List.not_mem_nil⟩⟩⟩⟩⟩⟩⟩⟩⟩⟩⟩⟩⟩⟩⟩⟩⟩⟩⟩⟩⟩⟩
theorem okX1_receive : ∀ q ∈ jcX1_receive, JOk mtab cX1_receive RX1 ("receive", []) 4 none q.1 q.2 := by
  unfold jcX1_receive
  exact List.forall_mem_append.mpr ⟨okX1_receive_p1, okX1_receive_p2⟩
set_option maxRecDepth 20000 in
theorem okX1_pushBack : ∀ q ∈ jcX1_pushBack, JOk mtab cX1_pushBack RX1 ("pushBack", []) 4 none q.1 q.2 := by
  unfold jcX1_pushBack
  exact List.forall_mem_cons.mpr ⟨k_iconst (show decode cX1_pushBack 0 = .ok (.iconst (-1), 1) by decide +kernel) (by decide +kernel), List.forall_mem_cons.mpr ⟨k_ist_n (show decode cX1_pushBack 1 = .ok (.istore_n 1, 1) by decide +kernel) rfl (by decide), List.forall_mem_cons.mpr ⟨k_iconst (show decode cX1_pushBack 2 = .ok (.iconst 0, 1) by decide +kernel) (by decide +kernel), List.forall_mem_cons.mpr ⟨k_ist_n (show decode cX1_pushBack 3 = .ok (.istore_n 2, 1) by decide +kernel) rfl (by decide), List.forall_mem_cons.mpr ⟨k_ild_n (show decode cX1_pushBack 4 = .ok (.iload_n 2, 1) by decide +kernel) rfl, List.forall_mem_cons.mpr ⟨k_ald_n (show decode cX1_pushBack 5 = .ok (.aload_n 0, 1) by decide +kernel) rfl, List.forall_mem_cons.mpr ⟨k_getf (C := RX1) (T := TX1) (N := 10) (show decode cX1_pushBack 6 = .ok (.getfield 61, 3) by decide +kernel) rfl inX1 (by decide) (gw1 179 rfl rfl) (by decide), List.forall_mem_cons.mpr ⟨k_icmp_ge (show decode cX1_pushBack 9 = .ok (.if_icmp .ge 40, 3) by decide +kernel) (by decide), List.forall_mem_cons.mpr ⟨k_ald_n (show decode cX1_pushBack 12 = .ok (.aload_n 0, 1) by decide +kernel) rfl, List.forall_mem_cons.mpr ⟨k_ild_n (show decode cX1_pushBack 13 = .ok (.iload_n 1, 1) by decide +kernel) rfl, List.forall_mem_cons.mpr ⟨k_inv (M := mX1_nextToLeave) (T := TX1) (N := 10) rfl rfl (show decode cX1_pushBack 14 = .ok (.invokevirtual 162, 3) by decide +kernel) rfl (by decide) (by decide +kernel) (by decide) (gw2 176 rfl rfl) (gw2 173 rfl rfl) (gw2 175 rfl rfl) (gs1 8 rfl) (gw1 2 rfl rfl) (fun _ h => absurd h List.not_mem_nil), List.forall_mem_cons.mpr ⟨k_ist_n (show decode cX1_pushBack 17 = .ok (.istore_n 3, 1) by decide +kernel) rfl (by decide), List.forall_mem_cons.mpr ⟨k_ild_n (show decode cX1_pushBack 18 = .ok (.iload_n 3, 1) by decide +kernel) rfl, List.forall_mem_cons.mpr ⟨k_iconst (show decode cX1_pushBack 19 = .ok (.iconst (-1), 1) by decide +kernel) (by decide +kernel), List.forall_mem_cons.mpr ⟨k_icmp_ne (show decode cX1_pushBack 20 = .ok (.if_icmp .ne 4, 3) by decide +kernel) (by decide), List.forall_mem_cons.mpr ⟨k_vret (show decode cX1_pushBack 23 = .ok (.return_, 1) by decide +kernel), List.forall_mem_cons.mpr ⟨k_ald_n (show decode cX1_pushBack 24 = .ok (.aload_n 0, 1) by decide +kernel) rfl, List.forall_mem_cons.mpr ⟨k_ild_n (show decode cX1_pushBack 25 = .ok (.iload_n 3, 1) by decide +kernel) rfl, List.forall_mem_cons.mpr ⟨k_inv (M := mX1_reason) (T := TX1) (N := 10) rfl rfl (show decode cX1_pushBack 26 = .ok (.invokevirtual 165, 3) by decide +kernel) rfl (by decide) (by decide +kernel) (by decide) (gw2 188 rfl rfl) (gw2 185 rfl rfl) (gw2 186 rfl rfl) (gw2 187 rfl rfl) (gw1 2 rfl rfl) (fun _ h => absurd h List.not_mem_nil), List.forall_mem_cons.mpr ⟨k_if_ne (show decode cX1_pushBack 29 = .ok (.ifCond .ne 8, 3) by decide +kernel) (by decide), List.forall_mem_cons.mpr ⟨k_ald_n (show decode cX1_pushBack 32 = .ok (.aload_n 0, 1) by decide +kernel) rfl, List.forall_mem_cons.mpr ⟨k_ild_n (show decode cX1_pushBack 33 = .ok (.iload_n 3, 1) by decide +kernel) rfl, List.forall_mem_cons.mpr ⟨k_inv (M := mX1_beginPush) (T := TX1) (N := 10) rfl rfl (show decode cX1_pushBack 34 = .ok (.invokevirtual 168, 3) by decide +kernel) rfl (by decide) (by decide +kernel) (by decide) (gw2 204 rfl rfl) (gw2 201 rfl rfl) (gw2 203 rfl rfl) (gs1 13 rfl) (gw1 2 rfl rfl) (fun _ h => absurd h List.not_mem_nil), List.forall_mem_cons.mpr ⟨k_ald_n (show decode cX1_pushBack 37 = .ok (.aload_n 0, 1) by decide +kernel) rfl, List.forall_mem_cons.mpr ⟨k_ild_n (show decode cX1_pushBack 38 = .ok (.iload_n 3, 1) by decide +kernel) rfl, List.forall_mem_cons.mpr ⟨k_inv (M := mX1_turn) (T := TX1) (N := 10) rfl rfl (show decode cX1_pushBack 39 = .ok (.invokevirtual 171, 3) by decide +kernel) rfl (by decide) (by decide +kernel) (by decide) (gw2 184 rfl rfl) (gw2 181 rfl rfl) (gw2 183 rfl rfl) (gs1 9 rfl) (gw1 2 rfl rfl) (fun _ h => absurd h List.not_mem_nil), List.forall_mem_cons.mpr ⟨k_ist_n (show decode cX1_pushBack 42 = .ok (.istore_n 1, 1) by decide +kernel) rfl (by decide), List.forall_mem_cons.mpr ⟨k_iinc (show decode cX1_pushBack 43 = .ok (.iinc 2 1, 3) by decide +kernel) (by decide +kernel) (by decide), List.forall_mem_cons.mpr ⟨k_goto (show decode cX1_pushBack 46 = .ok (.goto (-42), 3) by decide +kernel) (by decide), List.forall_mem_cons.mpr ⟨k_vret (show decode cX1_pushBack 49 = .ok (.return_, 1) by decide +kernel), fun _ h => absurd h List.not_mem_nil⟩⟩⟩⟩⟩⟩⟩⟩⟩⟩⟩⟩⟩⟩⟩⟩⟩⟩⟩⟩⟩⟩⟩⟩⟩⟩⟩⟩⟩⟩
set_option maxRecDepth 20000 in
theorem okX1_turn : ∀ q ∈ jcX1_turn, JOk mtab cX1_turn RX1 ("turn", []) 2 none q.1 q.2 := by
  unfold jcX1_turn
  exact List.forall_mem_cons.mpr ⟨k_ald_n (show decode cX1_turn 0 = .ok (.aload_n 0, 1) by decide +kernel) rfl, List.forall_mem_cons.mpr ⟨k_getf (C := RX1) (T := TX1) (N := 10) (show decode cX1_turn 1 = .ok (.getfield 25, 3) by decide +kernel) rfl inX1 (by decide) (gw1 173 rfl rfl) (by decide), List.forall_mem_cons.mpr ⟨k_ild_n (show decode cX1_turn 4 = .ok (.iload_n 1, 1) by decide +kernel) rfl, List.forall_mem_cons.mpr ⟨k_aald (show decode cX1_turn 5 = .ok (.aaload, 1) by decide +kernel) (by decide) rfl, List.forall_mem_cons.mpr ⟨k_getf (C := RX0) (T := TX0) (N := 10) (show decode cX1_turn 6 = .ok (.getfield 137, 3) by decide +kernel) rfl inX0 (by decide) (gw1 118 rfl rfl) (by decide), List.forall_mem_cons.mpr ⟨k_bipush (show decode cX1_turn 9 = .ok (.bipush 12, 2) by decide +kernel) (by decide +kernel), List.forall_mem_cons.mpr ⟨k_imul (show decode cX1_turn 11 = .ok (.imul, 1) by decide +kernel), List.forall_mem_cons.mpr ⟨k_ild_n (show decode cX1_turn 12 = .ok (.iload_n 1, 1) by decide +kernel) rfl, List.forall_mem_cons.mpr ⟨k_iadd (show decode cX1_turn 13 = .ok (.iadd, 1) by decide +kernel), List.forall_mem_cons.mpr ⟨k_iret (show decode cX1_turn 14 = .ok (.ireturn, 1) by decide +kernel), fun _ h => absurd h List.not_mem_nil⟩⟩⟩⟩⟩⟩⟩⟩⟩⟩
set_option maxRecDepth 20000 in
theorem okX1_nextToLeave : ∀ q ∈ jcX1_nextToLeave, JOk mtab cX1_nextToLeave RX1 ("nextToLeave", []) 5 none q.1 q.2 := by
  unfold jcX1_nextToLeave
  exact List.forall_mem_cons.mpr ⟨k_iconst (show decode cX1_nextToLeave 0 = .ok (.iconst (-1), 1) by decide +kernel) (by decide +kernel), List.forall_mem_cons.mpr ⟨k_ist_n (show decode cX1_nextToLeave 1 = .ok (.istore_n 2, 1) by decide +kernel) rfl (by decide), List.forall_mem_cons.mpr ⟨k_iconst (show decode cX1_nextToLeave 2 = .ok (.iconst 0, 1) by decide +kernel) (by decide +kernel), List.forall_mem_cons.mpr ⟨k_ist_n (show decode cX1_nextToLeave 3 = .ok (.istore_n 3, 1) by decide +kernel) rfl (by decide), List.forall_mem_cons.mpr ⟨k_ild_n (show decode cX1_nextToLeave 4 = .ok (.iload_n 3, 1) by decide +kernel) rfl, List.forall_mem_cons.mpr ⟨k_ald_n (show decode cX1_nextToLeave 5 = .ok (.aload_n 0, 1) by decide +kernel) rfl, List.forall_mem_cons.mpr ⟨k_getf (C := RX1) (T := TX1) (N := 10) (show decode cX1_nextToLeave 6 = .ok (.getfield 61, 3) by decide +kernel) rfl inX1 (by decide) (gw1 179 rfl rfl) (by decide), List.forall_mem_cons.mpr ⟨k_icmp_ge (show decode cX1_nextToLeave 9 = .ok (.if_icmp .ge 66, 3) by decide +kernel) (by decide), List.forall_mem_cons.mpr ⟨k_ald_n (show decode cX1_nextToLeave 12 = .ok (.aload_n 0, 1) by decide +kernel) rfl, List.forall_mem_cons.mpr ⟨k_getf (C := RX1) (T := TX1) (N := 10) (show decode cX1_nextToLeave 13 = .ok (.getfield 25, 3) by decide +kernel) rfl inX1 (by decide) (gw1 173 rfl rfl) (by decide), List.forall_mem_cons.mpr ⟨k_ild_n (show decode cX1_nextToLeave 16 = .ok (.iload_n 3, 1) by decide +kernel) rfl, List.forall_mem_cons.mpr ⟨k_aald (show decode cX1_nextToLeave 17 = .ok (.aaload, 1) by decide +kernel) (by decide) rfl, List.forall_mem_cons.mpr ⟨k_ast (show decode cX1_nextToLeave 18 = .ok (.astore 4, 2) by decide +kernel) (by decide), List.forall_mem_cons.mpr ⟨k_ald (show decode cX1_nextToLeave 20 = .ok (.aload 4, 2) by decide +kernel), List.forall_mem_cons.mpr ⟨k_inv (M := mX0_isOnStandOrBay) (T := TX0) (N := 10) rfl rfl (show decode cX1_nextToLeave 22 = .ok (.invokevirtual 133, 3) by decide +kernel) rfl (by decide) (by decide +kernel) (by decide) (gw2 180 rfl rfl) (gw2 177 rfl rfl) (gw2 178 rfl rfl) (gw2 179 rfl rfl) (gw1 6 rfl rfl) (fun _ h => absurd h List.not_mem_nil), List.forall_mem_cons.mpr ⟨k_if_eq (show decode cX1_nextToLeave 25 = .ok (.ifCond .eq 44, 3) by decide +kernel) (by decide), List.forall_mem_cons.mpr ⟨k_ald (show decode cX1_nextToLeave 28 = .ok (.aload 4, 2) by decide +kernel), List.forall_mem_cons.mpr ⟨k_getf (C := RX0) (T := TX0) (N := 10) (show decode cX1_nextToLeave 30 = .ok (.getfield 137, 3) by decide +kernel) rfl inX0 (by decide) (gw1 118 rfl rfl) (by decide), List.forall_mem_cons.mpr ⟨k_ald_n (show decode cX1_nextToLeave 33 = .ok (.aload_n 0, 1) by decide +kernel) rfl, List.forall_mem_cons.mpr ⟨k_getf (C := RX1) (T := TX1) (N := 10) (show decode cX1_nextToLeave 34 = .ok (.getfield 64, 3) by decide +kernel) rfl inX1 (by decide) (gw1 182 rfl rfl) (by decide), List.forall_mem_cons.mpr ⟨k_icmp_gt (show decode cX1_nextToLeave 37 = .ok (.if_icmp .gt 32, 3) by decide +kernel) (by decide), List.forall_mem_cons.mpr ⟨k_ald_n (show decode cX1_nextToLeave 40 = .ok (.aload_n 0, 1) by decide +kernel) rfl, List.forall_mem_cons.mpr ⟨k_ild_n (show decode cX1_nextToLeave 41 = .ok (.iload_n 3, 1) by decide +kernel) rfl, List.forall_mem_cons.mpr ⟨k_inv (M := mX1_turn) (T := TX1) (N := 10) rfl rfl (show decode cX1_nextToLeave 42 = .ok (.invokevirtual 171, 3) by decide +kernel) rfl (by decide) (by decide +kernel) (by decide) (gw2 184 rfl rfl) (gw2 181 rfl rfl) (gw2 183 rfl rfl) (gs1 9 rfl) (gw1 2 rfl rfl) (fun _ h => absurd h List.not_mem_nil), List.forall_mem_cons.mpr ⟨k_ild_n (show decode cX1_nextToLeave 45 = .ok (.iload_n 1, 1) by decide +kernel) rfl, List.forall_mem_cons.mpr ⟨k_icmp_le (show decode cX1_nextToLeave 46 = .ok (.if_icmp .le 23, 3) by decide +kernel) (by decide), List.forall_mem_cons.mpr ⟨k_ild_n (show decode cX1_nextToLeave 49 = .ok (.iload_n 2, 1) by decide +kernel) rfl, List.forall_mem_cons.mpr ⟨k_iconst (show decode cX1_nextToLeave 50 = .ok (.iconst (-1), 1) by decide +kernel) (by decide +kernel), List.forall_mem_cons.mpr ⟨k_icmp_eq (show decode cX1_nextToLeave 51 = .ok (.if_icmp .eq 16, 3) by decide +kernel) (by decide), List.forall_mem_cons.mpr ⟨k_ald_n (show decode cX1_nextToLeave 54 = .ok (.aload_n 0, 1) by decide +kernel) rfl, List.forall_mem_cons.mpr ⟨k_ild_n (show decode cX1_nextToLeave 55 = .ok (.iload_n 3, 1) by decide +kernel) rfl, List.forall_mem_cons.mpr ⟨k_inv (M := mX1_turn) (T := TX1) (N := 10) rfl rfl (show decode cX1_nextToLeave 56 = .ok (.invokevirtual 171, 3) by decide +kernel) rfl (by decide) (by decide +kernel) (by decide) (gw2 184 rfl rfl) (gw2 181 rfl rfl) (gw2 183 rfl rfl) (gs1 9 rfl) (gw1 2 rfl rfl) (fun _ h => absurd h List.not_mem_nil), List.forall_mem_cons.mpr ⟨k_ald_n (show decode cX1_nextToLeave 59 = .ok (.aload_n 0, 1) by decide +kernel) rfl, List.forall_mem_cons.mpr ⟨k_ild_n (show decode cX1_nextToLeave 60 = .ok (.iload_n 2, 1) by decide +kernel) rfl, List.forall_mem_cons.mpr ⟨k_inv (M := mX1_turn) (T := TX1) (N := 10) rfl rfl (show decode cX1_nextToLeave 61 = .ok (.invokevirtual 171, 3) by decide +kernel) rfl (by decide) (by decide +kernel) (by decide) (gw2 184 rfl rfl) (gw2 181 rfl rfl) (gw2 183 rfl rfl) (gs1 9 rfl) (gw1 2 rfl rfl) (fun _ h => absurd h List.not_mem_nil), List.forall_mem_cons.mpr ⟨k_icmp_ge (show decode cX1_nextToLeave 64 = .ok (.if_icmp .ge 5, 3) by decide +kernel) (by decide), List.forall_mem_cons.mpr ⟨k_ild_n (show decode cX1_nextToLeave 67 = .ok (.iload_n 3, 1) by decide +kernel) rfl, List.forall_mem_cons.mpr ⟨k_ist_n (show decode cX1_nextToLeave 68 = .ok (.istore_n 2, 1) by decide +kernel) rfl (by decide), List.forall_mem_cons.mpr ⟨k_iinc (show decode cX1_nextToLeave 69 = .ok (.iinc 3 1, 3) by decide +kernel) (by decide +kernel) (by decide), List.forall_mem_cons.mpr ⟨k_goto (show decode cX1_nextToLeave 72 = .ok (.goto (-68), 3) by decide +kernel) (by decide), List.forall_mem_cons.mpr ⟨k_ild_n (show decode cX1_nextToLeave 75 = .ok (.iload_n 2, 1) by decide +kernel) rfl, List.forall_mem_cons.mpr ⟨k_iret (show decode cX1_nextToLeave 76 = .ok (.ireturn, 1) by decide +kernel), fun _ h => absurd h List.not_mem_nil⟩⟩⟩⟩⟩⟩⟩⟩⟩⟩⟩⟩⟩⟩⟩⟩⟩⟩⟩⟩⟩⟩⟩⟩⟩⟩⟩⟩⟩⟩⟩⟩⟩⟩⟩⟩⟩⟩⟩⟩⟩⟩
set_option maxRecDepth 20000 in
theorem okX1_beginPush : ∀ q ∈ jcX1_beginPush, JOk mtab cX1_beginPush RX1 ("beginPush", []) 4 none q.1 q.2 := by
  unfold jcX1_beginPush
  exact List.forall_mem_cons.mpr ⟨k_ald_n (show decode cX1_beginPush 0 = .ok (.aload_n 0, 1) by decide +kernel) rfl, List.forall_mem_cons.mpr ⟨k_getf (C := RX1) (T := TX1) (N := 10) (show decode cX1_beginPush 1 = .ok (.getfield 25, 3) by decide +kernel) rfl inX1 (by decide) (gw1 173 rfl rfl) (by decide), List.forall_mem_cons.mpr ⟨k_ild_n (show decode cX1_beginPush 4 = .ok (.iload_n 1, 1) by decide +kernel) rfl, List.forall_mem_cons.mpr ⟨k_aald (show decode cX1_beginPush 5 = .ok (.aaload, 1) by decide +kernel) (by decide) rfl, List.forall_mem_cons.mpr ⟨k_ast_n (show decode cX1_beginPush 6 = .ok (.astore_n 2, 1) by decide +kernel) rfl (by decide), List.forall_mem_cons.mpr ⟨k_ald_n (show decode cX1_beginPush 7 = .ok (.aload_n 0, 1) by decide +kernel) rfl, List.forall_mem_cons.mpr ⟨k_ald_n (show decode cX1_beginPush 8 = .ok (.aload_n 2, 1) by decide +kernel) rfl, List.forall_mem_cons.mpr ⟨k_getf (C := RX0) (T := TX0) (N := 10) (show decode cX1_beginPush 9 = .ok (.getfield 174, 3) by decide +kernel) rfl inX0 (by decide) (gw1 112 rfl rfl) (by decide), List.forall_mem_cons.mpr ⟨k_inv (M := mX1_freeTugFor) (T := TX1) (N := 10) rfl rfl (show decode cX1_beginPush 12 = .ok (.invokevirtual 177, 3) by decide +kernel) rfl (by decide) (by decide +kernel) (by decide) (gw2 200 rfl rfl) (gw2 197 rfl rfl) (gw2 199 rfl rfl) (gs1 12 rfl) (gw1 2 rfl rfl) (fun _ h => absurd h List.not_mem_nil), List.forall_mem_cons.mpr ⟨k_ist_n (show decode cX1_beginPush 15 = .ok (.istore_n 3, 1) by decide +kernel) rfl (by decide), List.forall_mem_cons.mpr ⟨k_ild_n (show decode cX1_beginPush 16 = .ok (.iload_n 3, 1) by decide +kernel) rfl, List.forall_mem_cons.mpr ⟨k_iconst (show decode cX1_beginPush 17 = .ok (.iconst (-1), 1) by decide +kernel) (by decide +kernel), List.forall_mem_cons.mpr ⟨k_icmp_ne (show decode cX1_beginPush 18 = .ok (.if_icmp .ne 4, 3) by decide +kernel) (by decide), List.forall_mem_cons.mpr ⟨k_vret (show decode cX1_beginPush 21 = .ok (.return_, 1) by decide +kernel), List.forall_mem_cons.mpr ⟨k_ald_n (show decode cX1_beginPush 22 = .ok (.aload_n 2, 1) by decide +kernel) rfl, List.forall_mem_cons.mpr ⟨k_getf (C := RX0) (T := TX0) (N := 10) (show decode cX1_beginPush 23 = .ok (.getfield 127, 3) by decide +kernel) rfl inX0 (by decide) (gw1 122 rfl rfl) (by decide), List.forall_mem_cons.mpr ⟨k_iconst (show decode cX1_beginPush 26 = .ok (.iconst 2, 1) by decide +kernel) (by decide +kernel), List.forall_mem_cons.mpr ⟨k_icmp_ne (show decode cX1_beginPush 27 = .ok (.if_icmp .ne 7, 3) by decide +kernel) (by decide), List.forall_mem_cons.mpr ⟨k_ald_n (show decode cX1_beginPush 30 = .ok (.aload_n 2, 1) by decide +kernel) rfl, List.forall_mem_cons.mpr ⟨k_inv (M := mX0_takeBuses) (T := TX0) (N := 10) rfl rfl (show decode cX1_beginPush 31 = .ok (.invokevirtual 159, 3) by decide +kernel) rfl (by decide) (by decide +kernel) (by decide) (gw2 168 rfl rfl) (gw2 165 rfl rfl) (gw2 166 rfl rfl) (gw2 167 rfl rfl) (gw1 6 rfl rfl) (fun _ h => absurd h List.not_mem_nil), List.forall_mem_cons.mpr ⟨k_ald_n (show decode cX1_beginPush 34 = .ok (.aload_n 2, 1) by decide +kernel) rfl, List.forall_mem_cons.mpr ⟨k_iconst (show decode cX1_beginPush 35 = .ok (.iconst 4, 1) by decide +kernel) (by decide +kernel), List.forall_mem_cons.mpr ⟨k_puti (C := RX0) (T := TX0) (N := 10) (show decode cX1_beginPush 36 = .ok (.putfield 127, 3) by decide +kernel) rfl inX0 tyX0_ok nmX0 (by decide) rfl rfl (gw1 122 rfl rfl) (by decide), List.forall_mem_cons.mpr ⟨k_ald_n (show decode cX1_beginPush 39 = .ok (.aload_n 2, 1) by decide +kernel) rfl, List.forall_mem_cons.mpr ⟨k_ald_n (show decode cX1_beginPush 40 = .ok (.aload_n 0, 1) by decide +kernel) rfl, List.forall_mem_cons.mpr ⟨k_getf (C := RX1) (T := TX1) (N := 10) (show decode cX1_beginPush 41 = .ok (.getfield 64, 3) by decide +kernel) rfl inX1 (by decide) (gw1 182 rfl rfl) (by decide), List.forall_mem_cons.mpr ⟨k_ald_n (show decode cX1_beginPush 44 = .ok (.aload_n 2, 1) by decide +kernel) rfl, List.forall_mem_cons.mpr ⟨k_getf (C := RX0) (T := TX0) (N := 10) (show decode cX1_beginPush 45 = .ok (.getfield 137, 3) by decide +kernel) rfl inX0 (by decide) (gw1 118 rfl rfl) (by decide), List.forall_mem_cons.mpr ⟨k_isub (show decode cX1_beginPush 48 = .ok (.isub, 1) by decide +kernel), List.forall_mem_cons.mpr ⟨k_puti (C := RX0) (T := TX0) (N := 10) (show decode cX1_beginPush 49 = .ok (.putfield 180, 3) by decide +kernel) rfl inX0 tyX0_ok nmX0 (by decide) rfl rfl (gw1 127 rfl rfl) (by decide), List.forall_mem_cons.mpr ⟨k_ald_n (show decode cX1_beginPush 52 = .ok (.aload_n 0, 1) by decide +kernel) rfl, List.forall_mem_cons.mpr ⟨k_getf (C := RX1) (T := TX1) (N := 10) (show decode cX1_beginPush 53 = .ok (.getfield 19, 3) by decide +kernel) rfl inX1 (by decide) (gw1 171 rfl rfl) (by decide), List.forall_mem_cons.mpr ⟨k_ild_n (show decode cX1_beginPush 56 = .ok (.iload_n 3, 1) by decide +kernel) rfl, List.forall_mem_cons.mpr ⟨k_aald (show decode cX1_beginPush 57 = .ok (.aaload, 1) by decide +kernel) (by decide) rfl, List.forall_mem_cons.mpr ⟨k_ild_n (show decode cX1_beginPush 58 = .ok (.iload_n 1, 1) by decide +kernel) rfl, List.forall_mem_cons.mpr ⟨k_iconst (show decode cX1_beginPush 59 = .ok (.iconst 5, 1) by decide +kernel) (by decide +kernel), List.forall_mem_cons.mpr ⟨k_inv (M := mX5_take) (T := TX5) (N := 5) rfl rfl (show decode cX1_beginPush 60 = .ok (.invokevirtual 183, 3) by decide +kernel) rfl (by decide) (by decide +kernel) (by decide) (gw2 208 rfl rfl) (gw2 205 rfl rfl) (gw2 206 rfl rfl) (gw2 207 rfl rfl) (gw1 5 rfl rfl) (fun _ h => absurd h List.not_mem_nil), List.forall_mem_cons.mpr ⟨k_ald_n (show decode cX1_beginPush 63 = .ok (.aload_n 0, 1) by decide +kernel) rfl, List.forall_mem_cons.mpr ⟨k_getf (C := RX1) (T := TX1) (N := 10) (show decode cX1_beginPush 64 = .ok (.getfield 19, 3) by decide +kernel) rfl inX1 (by decide) (gw1 171 rfl rfl) (by decide), List.forall_mem_cons.mpr ⟨k_ild_n (show decode cX1_beginPush 67 = .ok (.iload_n 3, 1) by decide +kernel) rfl, List.forall_mem_cons.mpr ⟨k_aald (show decode cX1_beginPush 68 = .ok (.aaload, 1) by decide +kernel) (by decide) rfl, List.forall_mem_cons.mpr ⟨k_dup (show decode cX1_beginPush 69 = .ok (.dup, 1) by decide +kernel), List.forall_mem_cons.mpr ⟨k_getf (C := RX5) (T := TX5) (N := 5) (show decode cX1_beginPush 70 = .ok (.getfield 186, 3) by decide +kernel) rfl inX5 (by decide) (gw1 90 rfl rfl) (by decide), List.forall_mem_cons.mpr ⟨k_iconst (show decode cX1_beginPush 73 = .ok (.iconst 1, 1) by decide +kernel) (by decide +kernel), List.forall_mem_cons.mpr ⟨k_iadd (show decode cX1_beginPush 74 = .ok (.iadd, 1) by decide +kernel), List.forall_mem_cons.mpr ⟨k_puti (C := RX5) (T := TX5) (N := 5) (show decode cX1_beginPush 75 = .ok (.putfield 186, 3) by decide +kernel) rfl inX5 tyX5_ok nmX5 (by decide) rfl rfl (gw1 90 rfl rfl) (by decide), List.forall_mem_cons.mpr ⟨k_ald_n (show decode cX1_beginPush 78 = .ok (.aload_n 0, 1) by decide +kernel) rfl, List.forall_mem_cons.mpr ⟨k_getf (C := RX1) (T := TX1) (N := 10) (show decode cX1_beginPush 79 = .ok (.getfield 32, 3) by decide +kernel) rfl inX1 (by decide) (gw1 175 rfl rfl) (by decide), List.forall_mem_cons.mpr ⟨k_iconst (show decode cX1_beginPush 82 = .ok (.iconst 3, 1) by decide +kernel) (by decide +kernel), List.forall_mem_cons.mpr ⟨k_ald_n (show decode cX1_beginPush 83 = .ok (.aload_n 0, 1) by decide +kernel) rfl, List.forall_mem_cons.mpr ⟨k_getf (C := RX1) (T := TX1) (N := 10) (show decode cX1_beginPush 84 = .ok (.getfield 64, 3) by decide +kernel) rfl inX1 (by decide) (gw1 182 rfl rfl) (by decide), List.forall_mem_cons.mpr ⟨k_ild_n (show decode cX1_beginPush 87 = .ok (.iload_n 1, 1) by decide +kernel) rfl, List.forall_mem_cons.mpr ⟨k_inv (M := mX2_put) (T := TX2) (N := 4) rfl rfl (show decode cX1_beginPush 88 = .ok (.invokevirtual 146, 3) by decide +kernel) rfl (by decide) (by decide +kernel) (by decide) (gw2 156 rfl rfl) (gw2 153 rfl rfl) (gw2 154 rfl rfl) (gw2 155 rfl rfl) (gw1 3 rfl rfl) (fun _ h => absurd h List.not_mem_nil), List.forall_mem_cons.mpr ⟨k_vret (show decode cX1_beginPush 91 = .ok (.return_, 1) by decide +kernel), fun _ h => absurd h List.not_mem_nil⟩⟩⟩⟩⟩⟩⟩⟩⟩⟩⟩⟩⟩⟩⟩⟩⟩⟩⟩⟩⟩⟩⟩⟩⟩⟩⟩⟩⟩⟩⟩⟩⟩⟩⟩⟩⟩⟩⟩⟩⟩⟩⟩⟩⟩⟩⟩⟩⟩⟩⟩⟩⟩⟩
set_option maxRecDepth 20000 in
theorem okX1_tow_p1 : ∀ q ∈ jcX1_tow_p1, JOk mtab cX1_tow RX1 ("tow", []) 5 none q.1 q.2 := by
  unfold jcX1_tow_p1
  exact List.forall_mem_cons.mpr ⟨k_iconst (show decode cX1_tow 0 = .ok (.iconst 0, 1) by decide +kernel) (by decide +kernel), List.forall_mem_cons.mpr ⟨k_ist_n (show decode cX1_tow 1 = .ok (.istore_n 1, 1) by decide +kernel) rfl (by decide), List.forall_mem_cons.mpr ⟨k_ild_n (show decode cX1_tow 2 = .ok (.iload_n 1, 1) by decide +kernel) rfl, List.forall_mem_cons.mpr ⟨k_ald_n (show decode cX1_tow 3 = .ok (.aload_n 0, 1) by decide +kernel) rfl, List.forall_mem_cons.mpr ⟨k_getf (C := RX1) (T := TX1) (N := 10) (show decode cX1_tow 4 = .ok (.getfield 61, 3) by decide +kernel) rfl inX1 (by decide) (gw1 179 rfl rfl) (by decide), List.forall_mem_cons.mpr ⟨k_icmp_ge (show decode cX1_tow 7 = .ok (.if_icmp .ge 130, 3) by decide +kernel) (by decide), List.forall_mem_cons.mpr ⟨k_ald_n (show decode cX1_tow 10 = .ok (.aload_n 0, 1) by decide +kernel) rfl, List.forall_mem_cons.mpr ⟨k_getf (C := RX1) (T := TX1) (N := 10) (show decode cX1_tow 11 = .ok (.getfield 25, 3) by decide +kernel) rfl inX1 (by decide) (gw1 173 rfl rfl) (by decide), List.forall_mem_cons.mpr ⟨k_ild_n (show decode cX1_tow 14 = .ok (.iload_n 1, 1) by decide +kernel) rfl, List.forall_mem_cons.mpr ⟨k_aald (show decode cX1_tow 15 = .ok (.aaload, 1) by decide +kernel) (by decide) rfl, List.forall_mem_cons.mpr ⟨k_ast_n (show decode cX1_tow 16 = .ok (.astore_n 2, 1) by decide +kernel) rfl (by decide), List.forall_mem_cons.mpr ⟨k_ald_n (show decode cX1_tow 17 = .ok (.aload_n 2, 1) by decide +kernel) rfl, List.forall_mem_cons.mpr ⟨k_getf (C := RX0) (T := TX0) (N := 10) (show decode cX1_tow 18 = .ok (.getfield 127, 3) by decide +kernel) rfl inX0 (by decide) (gw1 122 rfl rfl) (by decide), List.forall_mem_cons.mpr ⟨k_iconst (show decode cX1_tow 21 = .ok (.iconst 2, 1) by decide +kernel) (by decide +kernel), List.forall_mem_cons.mpr ⟨k_icmp_ne (show decode cX1_tow 22 = .ok (.if_icmp .ne 109, 3) by decide +kernel) (by decide), List.forall_mem_cons.mpr ⟨k_ald_n (show decode cX1_tow 25 = .ok (.aload_n 2, 1) by decide +kernel) rfl, List.forall_mem_cons.mpr ⟨k_getf (C := RX0) (T := TX0) (N := 10) (show decode cX1_tow 26 = .ok (.getfield 137, 3) by decide +kernel) rfl inX0 (by decide) (gw1 118 rfl rfl) (by decide), List.forall_mem_cons.mpr ⟨k_ald_n (show decode cX1_tow 29 = .ok (.aload_n 0, 1) by decide +kernel) rfl, List.forall_mem_cons.mpr ⟨k_getf (C := RX1) (T := TX1) (N := 10) (show decode cX1_tow 30 = .ok (.getfield 64, 3) by decide +kernel) rfl inX1 (by decide) (gw1 182 rfl rfl) (by decide), List.forall_mem_cons.mpr ⟨k_bipush (show decode cX1_tow 33 = .ok (.bipush 30, 2) by decide +kernel) (by decide +kernel), List.forall_mem_cons.mpr ⟨k_iadd (show decode cX1_tow 35 = .ok (.iadd, 1) by decide +kernel), List.forall_mem_cons.mpr ⟨k_icmp_le (show decode cX1_tow 36 = .ok (.if_icmp .le 95, 3) by decide +kernel) (by decide), List.forall_mem_cons.mpr ⟨k_ald_n (show decode cX1_tow 39 = .ok (.aload_n 0, 1) by decide +kernel) rfl, List.forall_mem_cons.mpr ⟨k_ald_n (show decode cX1_tow 40 = .ok (.aload_n 2, 1) by decide +kernel) rfl, List.forall_mem_cons.mpr ⟨k_getf (C := RX0) (T := TX0) (N := 10) (show decode cX1_tow 41 = .ok (.getfield 154, 3) by decide +kernel) rfl inX0 (by decide) (gw1 110 rfl rfl) (by decide), List.forall_mem_cons.mpr ⟨k_inv (M := mX1_freeStandFor) (T := TX1) (N := 10) rfl rfl (show decode cX1_tow 44 = .ok (.invokevirtual 155, 3) by decide +kernel) rfl (by decide) (by decide +kernel) (by decide) (gw2 164 rfl rfl) (gw2 161 rfl rfl) (gw2 163 rfl rfl) (gs1 6 rfl) (gw1 2 rfl rfl) (fun _ h => absurd h List.not_mem_nil), List.forall_mem_cons.mpr ⟨k_ist_n (show decode cX1_tow 47 = .ok (.istore_n 3, 1) by decide +kernel) rfl (by decide), List.forall_mem_cons.mpr ⟨k_ald_n (show decode cX1_tow 48 = .ok (.aload_n 0, 1) by decide +kernel) rfl, List.forall_mem_cons.mpr ⟨k_ald_n (show decode cX1_tow 49 = .ok (.aload_n 2, 1) by decide +kernel) rfl, List.forall_mem_cons.mpr ⟨k_getf (C := RX0) (T := TX0) (N := 10) (show decode cX1_tow 50 = .ok (.getfield 174, 3) by decide +kernel) rfl inX0 (by decide) (gw1 112 rfl rfl) (by decide), List.forall_mem_cons.mpr ⟨k_inv (M := mX1_freeTugFor) (T := TX1) (N := 10) rfl rfl (show decode cX1_tow 53 = .ok (.invokevirtual 177, 3) by decide +kernel) rfl (by decide) (by decide +kernel) (by decide) (gw2 200 rfl rfl) (gw2 197 rfl rfl) (gw2 199 rfl rfl) (gs1 12 rfl) (gw1 2 rfl rfl) (fun _ h => absurd h List.not_mem_nil), List.forall_mem_cons.mpr ⟨k_ist (show decode cX1_tow 56 = .ok (.istore 4, 2) by decide +kernel) (by decide), List.forall_mem_cons.mpr ⟨k_ild_n (show decode cX1_tow 58 = .ok (.iload_n 3, 1) by decide +kernel) rfl, List.forall_mem_cons.mpr ⟨k_iconst (show decode cX1_tow 59 = .ok (.iconst (-1), 1) by decide +kernel) (by decide +kernel), List.forall_mem_cons.mpr ⟨k_icmp_eq (show decode cX1_tow 60 = .ok (.if_icmp .eq 71, 3) by decide +kernel) (by decide), List.forall_mem_cons.mpr ⟨k_ild (show decode cX1_tow 63 = .ok (.iload 4, 2) by decide +kernel), List.forall_mem_cons.mpr ⟨k_iconst (show decode cX1_tow 65 = .ok (.iconst (-1), 1) by decide +kernel) (by decide +kernel), List.forall_mem_cons.mpr ⟨k_icmp_eq (show decode cX1_tow 66 = .ok (.if_icmp .eq 65, 3) by decide +kernel) (by decide), List.forall_mem_cons.mpr ⟨k_ald_n (show decode cX1_tow 69 = .ok (.aload_n 2, 1) by decide +kernel) rfl, List.forall_mem_cons.mpr ⟨k_iconst (show decode cX1_tow 70 = .ok (.iconst 3, 1) by decide +kernel) (by decide +kernel), fun _ h => absurd h List.not_mem_nil⟩⟩⟩⟩⟩⟩⟩⟩⟩⟩⟩⟩⟩⟩⟩⟩⟩⟩⟩⟩⟩⟩⟩⟩⟩⟩⟩⟩⟩⟩⟩⟩⟩⟩⟩⟩⟩⟩⟩⟩
set_option maxRecDepth 20000 in
theorem okX1_tow_p2 : ∀ q ∈ jcX1_tow_p2, JOk mtab cX1_tow RX1 ("tow", []) 5 none q.1 q.2 := by
  unfold jcX1_tow_p2
  exact List.forall_mem_cons.mpr ⟨k_puti (C := RX0) (T := TX0) (N := 10) (show decode cX1_tow 71 = .ok (.putfield 127, 3) by decide +kernel) rfl inX0 tyX0_ok nmX0 (by decide) rfl rfl (gw1 122 rfl rfl) (by decide), List.forall_mem_cons.mpr ⟨k_ald_n (show decode cX1_tow 74 = .ok (.aload_n 2, 1) by decide +kernel) rfl, List.forall_mem_cons.mpr ⟨k_ild_n (show decode cX1_tow 75 = .ok (.iload_n 3, 1) by decide +kernel) rfl, List.forall_mem_cons.mpr ⟨k_puti (C := RX0) (T := TX0) (N := 10) (show decode cX1_tow 76 = .ok (.putfield 150, 3) by decide +kernel) rfl inX0 tyX0_ok nmX0 (by decide) rfl rfl (gw1 124 rfl rfl) (by decide), List.forall_mem_cons.mpr ⟨k_ald_n (show decode cX1_tow 79 = .ok (.aload_n 0, 1) by decide +kernel) rfl, List.forall_mem_cons.mpr ⟨k_getf (C := RX1) (T := TX1) (N := 10) (show decode cX1_tow 80 = .ok (.getfield 11, 3) by decide +kernel) rfl inX1 (by decide) (gw1 169 rfl rfl) (by decide), List.forall_mem_cons.mpr ⟨k_ild_n (show decode cX1_tow 83 = .ok (.iload_n 3, 1) by decide +kernel) rfl, List.forall_mem_cons.mpr ⟨k_aald (show decode cX1_tow 84 = .ok (.aaload, 1) by decide +kernel) (by decide) rfl, List.forall_mem_cons.mpr ⟨k_ild_n (show decode cX1_tow 85 = .ok (.iload_n 1, 1) by decide +kernel) rfl, List.forall_mem_cons.mpr ⟨k_puti (C := RX3) (T := TX3) (N := 3) (show decode cX1_tow 86 = .ok (.putfield 153, 3) by decide +kernel) rfl inX3 tyX3_ok nmX3 (by decide) rfl rfl (gw1 66 rfl rfl) (by decide), List.forall_mem_cons.mpr ⟨k_ald_n (show decode cX1_tow 89 = .ok (.aload_n 0, 1) by decide +kernel) rfl, List.forall_mem_cons.mpr ⟨k_getf (C := RX1) (T := TX1) (N := 10) (show decode cX1_tow 90 = .ok (.getfield 19, 3) by decide +kernel) rfl inX1 (by decide) (gw1 171 rfl rfl) (by decide), List.forall_mem_cons.mpr ⟨k_ild (show decode cX1_tow 93 = .ok (.iload 4, 2) by decide +kernel), List.forall_mem_cons.mpr ⟨k_aald (show decode cX1_tow 95 = .ok (.aaload, 1) by decide +kernel) (by decide) rfl, List.forall_mem_cons.mpr ⟨k_ild_n (show decode cX1_tow 96 = .ok (.iload_n 1, 1) by decide +kernel) rfl, List.forall_mem_cons.mpr ⟨k_bipush (show decode cX1_tow 97 = .ok (.bipush 10, 2) by decide +kernel) (by decide +kernel), List.forall_mem_cons.mpr ⟨k_inv (M := mX5_take) (T := TX5) (N := 5) rfl rfl (show decode cX1_tow 99 = .ok (.invokevirtual 183, 3) by decide +kernel) rfl (by decide) (by decide +kernel) (by decide) (gw2 208 rfl rfl) (gw2 205 rfl rfl) (gw2 206 rfl rfl) (gw2 207 rfl rfl) (gw1 5 rfl rfl) (fun _ h => absurd h List.not_mem_nil), List.forall_mem_cons.mpr ⟨k_ald_n (show decode cX1_tow 102 = .ok (.aload_n 0, 1) by decide +kernel) rfl, List.forall_mem_cons.mpr ⟨k_getf (C := RX1) (T := TX1) (N := 10) (show decode cX1_tow 103 = .ok (.getfield 19, 3) by decide +kernel) rfl inX1 (by decide) (gw1 171 rfl rfl) (by decide), List.forall_mem_cons.mpr ⟨k_ild (show decode cX1_tow 106 = .ok (.iload 4, 2) by decide +kernel), List.forall_mem_cons.mpr ⟨k_aald (show decode cX1_tow 108 = .ok (.aaload, 1) by decide +kernel) (by decide) rfl, List.forall_mem_cons.mpr ⟨k_dup (show decode cX1_tow 109 = .ok (.dup, 1) by decide +kernel), List.forall_mem_cons.mpr ⟨k_getf (C := RX5) (T := TX5) (N := 5) (show decode cX1_tow 110 = .ok (.getfield 189, 3) by decide +kernel) rfl inX5 (by decide) (gw1 92 rfl rfl) (by decide), List.forall_mem_cons.mpr ⟨k_iconst (show decode cX1_tow 113 = .ok (.iconst 1, 1) by decide +kernel) (by decide +kernel), List.forall_mem_cons.mpr ⟨k_iadd (show decode cX1_tow 114 = .ok (.iadd, 1) by decide +kernel), List.forall_mem_cons.mpr ⟨k_puti (C := RX5) (T := TX5) (N := 5) (show decode cX1_tow 115 = .ok (.putfield 189, 3) by decide +kernel) rfl inX5 tyX5_ok nmX5 (by decide) rfl rfl (gw1 92 rfl rfl) (by decide), List.forall_mem_cons.mpr ⟨k_ald_n (show decode cX1_tow 118 = .ok (.aload_n 0, 1) by decide +kernel) rfl, List.forall_mem_cons.mpr ⟨k_getf (C := RX1) (T := TX1) (N := 10) (show decode cX1_tow 119 = .ok (.getfield 32, 3) by decide +kernel) rfl inX1 (by decide) (gw1 175 rfl rfl) (by decide), List.forall_mem_cons.mpr ⟨k_iconst (show decode cX1_tow 122 = .ok (.iconst 5, 1) by decide +kernel) (by decide +kernel), List.forall_mem_cons.mpr ⟨k_ald_n (show decode cX1_tow 123 = .ok (.aload_n 0, 1) by decide +kernel) rfl, List.forall_mem_cons.mpr ⟨k_getf (C := RX1) (T := TX1) (N := 10) (show decode cX1_tow 124 = .ok (.getfield 64, 3) by decide +kernel) rfl inX1 (by decide) (gw1 182 rfl rfl) (by decide), List.forall_mem_cons.mpr ⟨k_ild_n (show decode cX1_tow 127 = .ok (.iload_n 1, 1) by decide +kernel) rfl, List.forall_mem_cons.mpr ⟨k_inv (M := mX2_put) (T := TX2) (N := 4) rfl rfl (show decode cX1_tow 128 = .ok (.invokevirtual 146, 3) by decide +kernel) rfl (by decide) (by decide +kernel) (by decide) (gw2 156 rfl rfl) (gw2 153 rfl rfl) (gw2 154 rfl rfl) (gw2 155 rfl rfl) (gw1 3 rfl rfl) (fun _ h => absurd h List.not_mem_nil), List.forall_mem_cons.mpr ⟨k_iinc (show decode cX1_tow 131 = .ok (.iinc 1 1, 3) by decide +kernel) (by decide +kernel) (by decide), List.forall_mem_cons.mpr ⟨k_goto (show decode cX1_tow 134 = .ok (.goto (-132), 3) by decide +kernel) (by decide), List.forall_mem_cons.mpr ⟨k_vret (show decode cX1_tow 137 = .ok (.return_, 1) by decide +kernel), fun _ h => absurd h List.not_mem_nil⟩⟩⟩⟩⟩⟩⟩⟩⟩⟩⟩⟩⟩⟩⟩⟩⟩⟩⟩⟩⟩⟩⟩⟩⟩⟩⟩⟩⟩⟩⟩⟩⟩⟩⟩⟩
theorem okX1_tow : ∀ q ∈ jcX1_tow, JOk mtab cX1_tow RX1 ("tow", []) 5 none q.1 q.2 := by
  unfold jcX1_tow
  exact List.forall_mem_append.mpr ⟨okX1_tow_p1, okX1_tow_p2⟩
set_option maxRecDepth 20000 in
theorem okX1_countMinutes : ∀ q ∈ jcX1_countMinutes, JOk mtab cX1_countMinutes RX1 ("countMinutes", []) 4 none q.1 q.2 := by
  unfold jcX1_countMinutes
  exact List.forall_mem_cons.mpr ⟨k_iconst (show decode cX1_countMinutes 0 = .ok (.iconst 0, 1) by decide +kernel) (by decide +kernel), List.forall_mem_cons.mpr ⟨k_ist_n (show decode cX1_countMinutes 1 = .ok (.istore_n 2, 1) by decide +kernel) rfl (by decide), List.forall_mem_cons.mpr ⟨k_ild_n (show decode cX1_countMinutes 2 = .ok (.iload_n 2, 1) by decide +kernel) rfl, List.forall_mem_cons.mpr ⟨k_ald_n (show decode cX1_countMinutes 3 = .ok (.aload_n 0, 1) by decide +kernel) rfl, List.forall_mem_cons.mpr ⟨k_getf (C := RX1) (T := TX1) (N := 10) (show decode cX1_countMinutes 4 = .ok (.getfield 43, 3) by decide +kernel) rfl inX1 (by decide) (gw1 176 rfl rfl) (by decide), List.forall_mem_cons.mpr ⟨k_icmp_ge (show decode cX1_countMinutes 7 = .ok (.if_icmp .ge 52, 3) by decide +kernel) (by decide), List.forall_mem_cons.mpr ⟨k_ald_n (show decode cX1_countMinutes 10 = .ok (.aload_n 0, 1) by decide +kernel) rfl, List.forall_mem_cons.mpr ⟨k_getf (C := RX1) (T := TX1) (N := 10) (show decode cX1_countMinutes 11 = .ok (.getfield 11, 3) by decide +kernel) rfl inX1 (by decide) (gw1 169 rfl rfl) (by decide), List.forall_mem_cons.mpr ⟨k_ild_n (show decode cX1_countMinutes 14 = .ok (.iload_n 2, 1) by decide +kernel) rfl, List.forall_mem_cons.mpr ⟨k_aald (show decode cX1_countMinutes 15 = .ok (.aaload, 1) by decide +kernel) (by decide) rfl, List.forall_mem_cons.mpr ⟨k_ast_n (show decode cX1_countMinutes 16 = .ok (.astore_n 3, 1) by decide +kernel) rfl (by decide), List.forall_mem_cons.mpr ⟨k_ald_n (show decode cX1_countMinutes 17 = .ok (.aload_n 3, 1) by decide +kernel) rfl, List.forall_mem_cons.mpr ⟨k_getf (C := RX3) (T := TX3) (N := 3) (show decode cX1_countMinutes 18 = .ok (.getfield 153, 3) by decide +kernel) rfl inX3 (by decide) (gw1 66 rfl rfl) (by decide), List.forall_mem_cons.mpr ⟨k_iconst (show decode cX1_countMinutes 21 = .ok (.iconst (-1), 1) by decide +kernel) (by decide +kernel), List.forall_mem_cons.mpr ⟨k_icmp_eq (show decode cX1_countMinutes 22 = .ok (.if_icmp .eq 31, 3) by decide +kernel) (by decide), List.forall_mem_cons.mpr ⟨k_ald_n (show decode cX1_countMinutes 25 = .ok (.aload_n 3, 1) by decide +kernel) rfl, List.forall_mem_cons.mpr ⟨k_dup (show decode cX1_countMinutes 26 = .ok (.dup, 1) by decide +kernel), List.forall_mem_cons.mpr ⟨k_getf (C := RX3) (T := TX3) (N := 3) (show decode cX1_countMinutes 27 = .ok (.getfield 192, 3) by decide +kernel) rfl inX3 (by decide) (gw1 69 rfl rfl) (by decide), List.forall_mem_cons.mpr ⟨k_ild_n (show decode cX1_countMinutes 30 = .ok (.iload_n 1, 1) by decide +kernel) rfl, List.forall_mem_cons.mpr ⟨k_iadd (show decode cX1_countMinutes 31 = .ok (.iadd, 1) by decide +kernel), List.forall_mem_cons.mpr ⟨k_puti (C := RX3) (T := TX3) (N := 3) (show decode cX1_countMinutes 32 = .ok (.putfield 192, 3) by decide +kernel) rfl inX3 tyX3_ok nmX3 (by decide) rfl rfl (gw1 69 rfl rfl) (by decide), List.forall_mem_cons.mpr ⟨k_ald_n (show decode cX1_countMinutes 35 = .ok (.aload_n 0, 1) by decide +kernel) rfl, List.forall_mem_cons.mpr ⟨k_getf (C := RX1) (T := TX1) (N := 10) (show decode cX1_countMinutes 36 = .ok (.getfield 25, 3) by decide +kernel) rfl inX1 (by decide) (gw1 173 rfl rfl) (by decide), List.forall_mem_cons.mpr ⟨k_ald_n (show decode cX1_countMinutes 39 = .ok (.aload_n 3, 1) by decide +kernel) rfl, List.forall_mem_cons.mpr ⟨k_getf (C := RX3) (T := TX3) (N := 3) (show decode cX1_countMinutes 40 = .ok (.getfield 153, 3) by decide +kernel) rfl inX3 (by decide) (gw1 66 rfl rfl) (by decide), List.forall_mem_cons.mpr ⟨k_aald (show decode cX1_countMinutes 43 = .ok (.aaload, 1) by decide +kernel) (by decide) rfl, List.forall_mem_cons.mpr ⟨k_dup (show decode cX1_countMinutes 44 = .ok (.dup, 1) by decide +kernel), List.forall_mem_cons.mpr ⟨k_getf (C := RX0) (T := TX0) (N := 10) (show decode cX1_countMinutes 45 = .ok (.getfield 195, 3) by decide +kernel) rfl inX0 (by decide) (gw1 129 rfl rfl) (by decide), List.forall_mem_cons.mpr ⟨k_ild_n (show decode cX1_countMinutes 48 = .ok (.iload_n 1, 1) by decide +kernel) rfl, List.forall_mem_cons.mpr ⟨k_iadd (show decode cX1_countMinutes 49 = .ok (.iadd, 1) by decide +kernel), List.forall_mem_cons.mpr ⟨k_puti (C := RX0) (T := TX0) (N := 10) (show decode cX1_countMinutes 50 = .ok (.putfield 195, 3) by decide +kernel) rfl inX0 tyX0_ok nmX0 (by decide) rfl rfl (gw1 129 rfl rfl) (by decide), List.forall_mem_cons.mpr ⟨k_iinc (show decode cX1_countMinutes 53 = .ok (.iinc 2 1, 3) by decide +kernel) (by decide +kernel) (by decide), List.forall_mem_cons.mpr ⟨k_goto (show decode cX1_countMinutes 56 = .ok (.goto (-54), 3) by decide +kernel) (by decide), List.forall_mem_cons.mpr ⟨k_vret (show decode cX1_countMinutes 59 = .ok (.return_, 1) by decide +kernel), fun _ h => absurd h List.not_mem_nil⟩⟩⟩⟩⟩⟩⟩⟩⟩⟩⟩⟩⟩⟩⟩⟩⟩⟩⟩⟩⟩⟩⟩⟩⟩⟩⟩⟩⟩⟩⟩⟩⟩⟩
set_option maxRecDepth 20000 in
theorem okX1_freeStandFor : ∀ q ∈ jcX1_freeStandFor, JOk mtab cX1_freeStandFor RX1 ("freeStandFor", []) 4 none q.1 q.2 := by
  unfold jcX1_freeStandFor
  exact List.forall_mem_cons.mpr ⟨k_iconst (show decode cX1_freeStandFor 0 = .ok (.iconst (-1), 1) by decide +kernel) (by decide +kernel), List.forall_mem_cons.mpr ⟨k_ist_n (show decode cX1_freeStandFor 1 = .ok (.istore_n 2, 1) by decide +kernel) rfl (by decide), List.forall_mem_cons.mpr ⟨k_iconst (show decode cX1_freeStandFor 2 = .ok (.iconst 0, 1) by decide +kernel) (by decide +kernel), List.forall_mem_cons.mpr ⟨k_ist_n (show decode cX1_freeStandFor 3 = .ok (.istore_n 3, 1) by decide +kernel) rfl (by decide), List.forall_mem_cons.mpr ⟨k_ild_n (show decode cX1_freeStandFor 4 = .ok (.iload_n 3, 1) by decide +kernel) rfl, List.forall_mem_cons.mpr ⟨k_ald_n (show decode cX1_freeStandFor 5 = .ok (.aload_n 0, 1) by decide +kernel) rfl, List.forall_mem_cons.mpr ⟨k_getf (C := RX1) (T := TX1) (N := 10) (show decode cX1_freeStandFor 6 = .ok (.getfield 43, 3) by decide +kernel) rfl inX1 (by decide) (gw1 176 rfl rfl) (by decide), List.forall_mem_cons.mpr ⟨k_icmp_ge (show decode cX1_freeStandFor 9 = .ok (.if_icmp .ge 63, 3) by decide +kernel) (by decide), List.forall_mem_cons.mpr ⟨k_ald_n (show decode cX1_freeStandFor 12 = .ok (.aload_n 0, 1) by decide +kernel) rfl, List.forall_mem_cons.mpr ⟨k_getf (C := RX1) (T := TX1) (N := 10) (show decode cX1_freeStandFor 13 = .ok (.getfield 11, 3) by decide +kernel) rfl inX1 (by decide) (gw1 169 rfl rfl) (by decide), List.forall_mem_cons.mpr ⟨k_ild_n (show decode cX1_freeStandFor 16 = .ok (.iload_n 3, 1) by decide +kernel) rfl, List.forall_mem_cons.mpr ⟨k_aald (show decode cX1_freeStandFor 17 = .ok (.aaload, 1) by decide +kernel) (by decide) rfl, List.forall_mem_cons.mpr ⟨k_getf (C := RX3) (T := TX3) (N := 3) (show decode cX1_freeStandFor 18 = .ok (.getfield 153, 3) by decide +kernel) rfl inX3 (by decide) (gw1 66 rfl rfl) (by decide), List.forall_mem_cons.mpr ⟨k_iconst (show decode cX1_freeStandFor 21 = .ok (.iconst (-1), 1) by decide +kernel) (by decide +kernel), List.forall_mem_cons.mpr ⟨k_icmp_ne (show decode cX1_freeStandFor 22 = .ok (.if_icmp .ne 44, 3) by decide +kernel) (by decide), List.forall_mem_cons.mpr ⟨k_ald_n (show decode cX1_freeStandFor 25 = .ok (.aload_n 0, 1) by decide +kernel) rfl, List.forall_mem_cons.mpr ⟨k_getf (C := RX1) (T := TX1) (N := 10) (show decode cX1_freeStandFor 26 = .ok (.getfield 11, 3) by decide +kernel) rfl inX1 (by decide) (gw1 169 rfl rfl) (by decide), List.forall_mem_cons.mpr ⟨k_ild_n (show decode cX1_freeStandFor 29 = .ok (.iload_n 3, 1) by decide +kernel) rfl, List.forall_mem_cons.mpr ⟨k_aald (show decode cX1_freeStandFor 30 = .ok (.aaload, 1) by decide +kernel) (by decide) rfl, List.forall_mem_cons.mpr ⟨k_getf (C := RX3) (T := TX3) (N := 3) (show decode cX1_freeStandFor 31 = .ok (.getfield 50, 3) by decide +kernel) rfl inX3 (by decide) (gw1 62 rfl rfl) (by decide), List.forall_mem_cons.mpr ⟨k_ild_n (show decode cX1_freeStandFor 34 = .ok (.iload_n 1, 1) by decide +kernel) rfl, List.forall_mem_cons.mpr ⟨k_icmp_lt (show decode cX1_freeStandFor 35 = .ok (.if_icmp .lt 31, 3) by decide +kernel) (by decide), List.forall_mem_cons.mpr ⟨k_ild_n (show decode cX1_freeStandFor 38 = .ok (.iload_n 2, 1) by decide +kernel) rfl, List.forall_mem_cons.mpr ⟨k_iconst (show decode cX1_freeStandFor 39 = .ok (.iconst (-1), 1) by decide +kernel) (by decide +kernel), List.forall_mem_cons.mpr ⟨k_icmp_eq (show decode cX1_freeStandFor 40 = .ok (.if_icmp .eq 24, 3) by decide +kernel) (by decide), List.forall_mem_cons.mpr ⟨k_ald_n (show decode cX1_freeStandFor 43 = .ok (.aload_n 0, 1) by decide +kernel) rfl, List.forall_mem_cons.mpr ⟨k_getf (C := RX1) (T := TX1) (N := 10) (show decode cX1_freeStandFor 44 = .ok (.getfield 11, 3) by decide +kernel) rfl inX1 (by decide) (gw1 169 rfl rfl) (by decide), List.forall_mem_cons.mpr ⟨k_ild_n (show decode cX1_freeStandFor 47 = .ok (.iload_n 3, 1) by decide +kernel) rfl, List.forall_mem_cons.mpr ⟨k_aald (show decode cX1_freeStandFor 48 = .ok (.aaload, 1) by decide +kernel) (by decide) rfl, List.forall_mem_cons.mpr ⟨k_getf (C := RX3) (T := TX3) (N := 3) (show decode cX1_freeStandFor 49 = .ok (.getfield 50, 3) by decide +kernel) rfl inX3 (by decide) (gw1 62 rfl rfl) (by decide), List.forall_mem_cons.mpr ⟨k_ald_n (show decode cX1_freeStandFor 52 = .ok (.aload_n 0, 1) by decide +kernel) rfl, List.forall_mem_cons.mpr ⟨k_getf (C := RX1) (T := TX1) (N := 10) (show decode cX1_freeStandFor 53 = .ok (.getfield 11, 3) by decide +kernel) rfl inX1 (by decide) (gw1 169 rfl rfl) (by decide), List.forall_mem_cons.mpr ⟨k_ild_n (show decode cX1_freeStandFor 56 = .ok (.iload_n 2, 1) by decide +kernel) rfl, List.forall_mem_cons.mpr ⟨k_aald (show decode cX1_freeStandFor 57 = .ok (.aaload, 1) by decide +kernel) (by decide) rfl, List.forall_mem_cons.mpr ⟨k_getf (C := RX3) (T := TX3) (N := 3) (show decode cX1_freeStandFor 58 = .ok (.getfield 50, 3) by decide +kernel) rfl inX3 (by decide) (gw1 62 rfl rfl) (by decide), List.forall_mem_cons.mpr ⟨k_icmp_ge (show decode cX1_freeStandFor 61 = .ok (.if_icmp .ge 5, 3) by decide +kernel) (by decide), List.forall_mem_cons.mpr ⟨k_ild_n (show decode cX1_freeStandFor 64 = .ok (.iload_n 3, 1) by decide +kernel) rfl, List.forall_mem_cons.mpr ⟨k_ist_n (show decode cX1_freeStandFor 65 = .ok (.istore_n 2, 1) by decide +kernel) rfl (by decide), List.forall_mem_cons.mpr ⟨k_iinc (show decode cX1_freeStandFor 66 = .ok (.iinc 3 1, 3) by decide +kernel) (by decide +kernel) (by decide), List.forall_mem_cons.mpr ⟨k_goto (show decode cX1_freeStandFor 69 = .ok (.goto (-65), 3) by decide +kernel) (by decide), List.forall_mem_cons.mpr ⟨k_ild_n (show decode cX1_freeStandFor 72 = .ok (.iload_n 2, 1) by decide +kernel) rfl, List.forall_mem_cons.mpr ⟨k_iret (show decode cX1_freeStandFor 73 = .ok (.ireturn, 1) by decide +kernel), fun _ h => absurd h List.not_mem_nil⟩⟩⟩⟩⟩⟩⟩⟩⟩⟩⟩⟩⟩⟩⟩⟩⟩⟩⟩⟩⟩⟩⟩⟩⟩⟩⟩⟩⟩⟩⟩⟩⟩⟩⟩⟩⟩⟩⟩⟩⟩⟩
set_option maxRecDepth 20000 in
theorem okX1_freeTugFor : ∀ q ∈ jcX1_freeTugFor, JOk mtab cX1_freeTugFor RX1 ("freeTugFor", []) 4 none q.1 q.2 := by
  unfold jcX1_freeTugFor
  exact List.forall_mem_cons.mpr ⟨k_iconst (show decode cX1_freeTugFor 0 = .ok (.iconst (-1), 1) by decide +kernel) (by decide +kernel), List.forall_mem_cons.mpr ⟨k_ist_n (show decode cX1_freeTugFor 1 = .ok (.istore_n 2, 1) by decide +kernel) rfl (by decide), List.forall_mem_cons.mpr ⟨k_iconst (show decode cX1_freeTugFor 2 = .ok (.iconst 0, 1) by decide +kernel) (by decide +kernel), List.forall_mem_cons.mpr ⟨k_ist_n (show decode cX1_freeTugFor 3 = .ok (.istore_n 3, 1) by decide +kernel) rfl (by decide), List.forall_mem_cons.mpr ⟨k_ild_n (show decode cX1_freeTugFor 4 = .ok (.iload_n 3, 1) by decide +kernel) rfl, List.forall_mem_cons.mpr ⟨k_ald_n (show decode cX1_freeTugFor 5 = .ok (.aload_n 0, 1) by decide +kernel) rfl, List.forall_mem_cons.mpr ⟨k_getf (C := RX1) (T := TX1) (N := 10) (show decode cX1_freeTugFor 6 = .ok (.getfield 47, 3) by decide +kernel) rfl inX1 (by decide) (gw1 178 rfl rfl) (by decide), List.forall_mem_cons.mpr ⟨k_icmp_ge (show decode cX1_freeTugFor 9 = .ok (.if_icmp .ge 63, 3) by decide +kernel) (by decide), List.forall_mem_cons.mpr ⟨k_ald_n (show decode cX1_freeTugFor 12 = .ok (.aload_n 0, 1) by decide +kernel) rfl, List.forall_mem_cons.mpr ⟨k_getf (C := RX1) (T := TX1) (N := 10) (show decode cX1_freeTugFor 13 = .ok (.getfield 19, 3) by decide +kernel) rfl inX1 (by decide) (gw1 171 rfl rfl) (by decide), List.forall_mem_cons.mpr ⟨k_ild_n (show decode cX1_freeTugFor 16 = .ok (.iload_n 3, 1) by decide +kernel) rfl, List.forall_mem_cons.mpr ⟨k_aald (show decode cX1_freeTugFor 17 = .ok (.aaload, 1) by decide +kernel) (by decide) rfl, List.forall_mem_cons.mpr ⟨k_getf (C := RX5) (T := TX5) (N := 5) (show decode cX1_freeTugFor 18 = .ok (.getfield 118, 3) by decide +kernel) rfl inX5 (by decide) (gw1 86 rfl rfl) (by decide), List.forall_mem_cons.mpr ⟨k_iconst (show decode cX1_freeTugFor 21 = .ok (.iconst (-1), 1) by decide +kernel) (by decide +kernel), List.forall_mem_cons.mpr ⟨k_icmp_ne (show decode cX1_freeTugFor 22 = .ok (.if_icmp .ne 44, 3) by decide +kernel) (by decide), List.forall_mem_cons.mpr ⟨k_ald_n (show decode cX1_freeTugFor 25 = .ok (.aload_n 0, 1) by decide +kernel) rfl, List.forall_mem_cons.mpr ⟨k_getf (C := RX1) (T := TX1) (N := 10) (show decode cX1_freeTugFor 26 = .ok (.getfield 19, 3) by decide +kernel) rfl inX1 (by decide) (gw1 171 rfl rfl) (by decide), List.forall_mem_cons.mpr ⟨k_ild_n (show decode cX1_freeTugFor 29 = .ok (.iload_n 3, 1) by decide +kernel) rfl, List.forall_mem_cons.mpr ⟨k_aald (show decode cX1_freeTugFor 30 = .ok (.aaload, 1) by decide +kernel) (by decide) rfl, List.forall_mem_cons.mpr ⟨k_getf (C := RX5) (T := TX5) (N := 5) (show decode cX1_freeTugFor 31 = .ok (.getfield 53, 3) by decide +kernel) rfl inX5 (by decide) (gw1 82 rfl rfl) (by decide), List.forall_mem_cons.mpr ⟨k_ild_n (show decode cX1_freeTugFor 34 = .ok (.iload_n 1, 1) by decide +kernel) rfl, List.forall_mem_cons.mpr ⟨k_icmp_lt (show decode cX1_freeTugFor 35 = .ok (.if_icmp .lt 31, 3) by decide +kernel) (by decide), List.forall_mem_cons.mpr ⟨k_ild_n (show decode cX1_freeTugFor 38 = .ok (.iload_n 2, 1) by decide +kernel) rfl, List.forall_mem_cons.mpr ⟨k_iconst (show decode cX1_freeTugFor 39 = .ok (.iconst (-1), 1) by decide +kernel) (by decide +kernel), List.forall_mem_cons.mpr ⟨k_icmp_eq (show decode cX1_freeTugFor 40 = .ok (.if_icmp .eq 24, 3) by decide +kernel) (by decide), List.forall_mem_cons.mpr ⟨k_ald_n (show decode cX1_freeTugFor 43 = .ok (.aload_n 0, 1) by decide +kernel) rfl, List.forall_mem_cons.mpr ⟨k_getf (C := RX1) (T := TX1) (N := 10) (show decode cX1_freeTugFor 44 = .ok (.getfield 19, 3) by decide +kernel) rfl inX1 (by decide) (gw1 171 rfl rfl) (by decide), List.forall_mem_cons.mpr ⟨k_ild_n (show decode cX1_freeTugFor 47 = .ok (.iload_n 3, 1) by decide +kernel) rfl, List.forall_mem_cons.mpr ⟨k_aald (show decode cX1_freeTugFor 48 = .ok (.aaload, 1) by decide +kernel) (by decide) rfl, List.forall_mem_cons.mpr ⟨k_getf (C := RX5) (T := TX5) (N := 5) (show decode cX1_freeTugFor 49 = .ok (.getfield 53, 3) by decide +kernel) rfl inX5 (by decide) (gw1 82 rfl rfl) (by decide), List.forall_mem_cons.mpr ⟨k_ald_n (show decode cX1_freeTugFor 52 = .ok (.aload_n 0, 1) by decide +kernel) rfl, List.forall_mem_cons.mpr ⟨k_getf (C := RX1) (T := TX1) (N := 10) (show decode cX1_freeTugFor 53 = .ok (.getfield 19, 3) by decide +kernel) rfl inX1 (by decide) (gw1 171 rfl rfl) (by decide), List.forall_mem_cons.mpr ⟨k_ild_n (show decode cX1_freeTugFor 56 = .ok (.iload_n 2, 1) by decide +kernel) rfl, List.forall_mem_cons.mpr ⟨k_aald (show decode cX1_freeTugFor 57 = .ok (.aaload, 1) by decide +kernel) (by decide) rfl, List.forall_mem_cons.mpr ⟨k_getf (C := RX5) (T := TX5) (N := 5) (show decode cX1_freeTugFor 58 = .ok (.getfield 53, 3) by decide +kernel) rfl inX5 (by decide) (gw1 82 rfl rfl) (by decide), List.forall_mem_cons.mpr ⟨k_icmp_ge (show decode cX1_freeTugFor 61 = .ok (.if_icmp .ge 5, 3) by decide +kernel) (by decide), List.forall_mem_cons.mpr ⟨k_ild_n (show decode cX1_freeTugFor 64 = .ok (.iload_n 3, 1) by decide +kernel) rfl, List.forall_mem_cons.mpr ⟨k_ist_n (show decode cX1_freeTugFor 65 = .ok (.istore_n 2, 1) by decide +kernel) rfl (by decide), List.forall_mem_cons.mpr ⟨k_iinc (show decode cX1_freeTugFor 66 = .ok (.iinc 3 1, 3) by decide +kernel) (by decide +kernel) (by decide), List.forall_mem_cons.mpr ⟨k_goto (show decode cX1_freeTugFor 69 = .ok (.goto (-65), 3) by decide +kernel) (by decide), List.forall_mem_cons.mpr ⟨k_ild_n (show decode cX1_freeTugFor 72 = .ok (.iload_n 2, 1) by decide +kernel) rfl, List.forall_mem_cons.mpr ⟨k_iret (show decode cX1_freeTugFor 73 = .ok (.ireturn, 1) by decide +kernel), fun _ h => absurd h List.not_mem_nil⟩⟩⟩⟩⟩⟩⟩⟩⟩⟩⟩⟩⟩⟩⟩⟩⟩⟩⟩⟩⟩⟩⟩⟩⟩⟩⟩⟩⟩⟩⟩⟩⟩⟩⟩⟩⟩⟩⟩⟩⟩⟩
end
section
/-! each action of a table is sound -/
set_option maxRecDepth 20000 in
theorem okX1_reason_p1 : ∀ q ∈ jcX1_reason_p1, JOk mtab cX1_reason RX1 ("reason", []) 3 none q.1 q.2 := by
  unfold jcX1_reason_p1
  exact List.forall_mem_cons.mpr ⟨k_ald_n (show decode cX1_reason 0 = .ok (.aload_n 0, 1) by decide +kernel) rfl, List.forall_mem_cons.mpr ⟨k_getf (C := RX1) (T := TX1) (N := 10) (show decode cX1_reason 1 = .ok (.getfield 25, 3) by decide +kernel) rfl inX1 (by decide) (gw1 173 rfl rfl) (by decide), List.forall_mem_cons.mpr ⟨k_ild_n (show decode cX1_reason 4 = .ok (.iload_n 1, 1) by decide +kernel) rfl, List.forall_mem_cons.mpr ⟨k_aald (show decode cX1_reason 5 = .ok (.aaload, 1) by decide +kernel) (by decide) rfl, List.forall_mem_cons.mpr ⟨k_ast_n (show decode cX1_reason 6 = .ok (.astore_n 2, 1) by decide +kernel) rfl (by decide), List.forall_mem_cons.mpr ⟨k_ald_n (show decode cX1_reason 7 = .ok (.aload_n 2, 1) by decide +kernel) rfl, List.forall_mem_cons.mpr ⟨k_getf (C := RX0) (T := TX0) (N := 10) (show decode cX1_reason 8 = .ok (.getfield 127, 3) by decide +kernel) rfl inX0 (by decide) (gw1 122 rfl rfl) (by decide), List.forall_mem_cons.mpr ⟨k_if_ne (show decode cX1_reason 11 = .ok (.ifCond .ne 5, 3) by decide +kernel) (by decide), List.forall_mem_cons.mpr ⟨k_iconst (show decode cX1_reason 14 = .ok (.iconst 1, 1) by decide +kernel) (by decide +kernel), List.forall_mem_cons.mpr ⟨k_iret (show decode cX1_reason 15 = .ok (.ireturn, 1) by decide +kernel), List.forall_mem_cons.mpr ⟨k_ald_n (show decode cX1_reason 16 = .ok (.aload_n 2, 1) by decide +kernel) rfl, List.forall_mem_cons.mpr ⟨k_getf (C := RX0) (T := TX0) (N := 10) (show decode cX1_reason 17 = .ok (.getfield 127, 3) by decide +kernel) rfl inX0 (by decide) (gw1 122 rfl rfl) (by decide), List.forall_mem_cons.mpr ⟨k_iconst (show decode cX1_reason 20 = .ok (.iconst 3, 1) by decide +kernel) (by decide +kernel), List.forall_mem_cons.mpr ⟨k_icmp_ne (show decode cX1_reason 21 = .ok (.if_icmp .ne 5, 3) by decide +kernel) (by decide), List.forall_mem_cons.mpr ⟨k_iconst (show decode cX1_reason 24 = .ok (.iconst 2, 1) by decide +kernel) (by decide +kernel), List.forall_mem_cons.mpr ⟨k_iret (show decode cX1_reason 25 = .ok (.ireturn, 1) by decide +kernel), List.forall_mem_cons.mpr ⟨k_ald_n (show decode cX1_reason 26 = .ok (.aload_n 2, 1) by decide +kernel) rfl, List.forall_mem_cons.mpr ⟨k_inv (M := mX0_isOnStandOrBay) (T := TX0) (N := 10) rfl rfl (show decode cX1_reason 27 = .ok (.invokevirtual 133, 3) by decide +kernel) rfl (by decide) (by decide +kernel) (by decide) (gw2 180 rfl rfl) (gw2 177 rfl rfl) (gw2 178 rfl rfl) (gw2 179 rfl rfl) (gw1 6 rfl rfl) (fun _ h => absurd h List.not_mem_nil), List.forall_mem_cons.mpr ⟨k_if_ne (show decode cX1_reason 30 = .ok (.ifCond .ne 5, 3) by decide +kernel) (by decide), List.forall_mem_cons.mpr ⟨k_iconst (show decode cX1_reason 33 = .ok (.iconst 3, 1) by decide +kernel) (by decide +kernel), List.forall_mem_cons.mpr ⟨k_iret (show decode cX1_reason 34 = .ok (.ireturn, 1) by decide +kernel), List.forall_mem_cons.mpr ⟨k_ald_n (show decode cX1_reason 35 = .ok (.aload_n 2, 1) by decide +kernel) rfl, List.forall_mem_cons.mpr ⟨k_getf (C := RX0) (T := TX0) (N := 10) (show decode cX1_reason 36 = .ok (.getfield 137, 3) by decide +kernel) rfl inX0 (by decide) (gw1 118 rfl rfl) (by decide), List.forall_mem_cons.mpr ⟨k_ald_n (show decode cX1_reason 39 = .ok (.aload_n 0, 1) by decide +kernel) rfl, List.forall_mem_cons.mpr ⟨k_getf (C := RX1) (T := TX1) (N := 10) (show decode cX1_reason 40 = .ok (.getfield 64, 3) by decide +kernel) rfl inX1 (by decide) (gw1 182 rfl rfl) (by decide), List.forall_mem_cons.mpr ⟨k_icmp_le (show decode cX1_reason 43 = .ok (.if_icmp .le 5, 3) by decide +kernel) (by decide), List.forall_mem_cons.mpr ⟨k_iconst (show decode cX1_reason 46 = .ok (.iconst 4, 1) by decide +kernel) (by decide +kernel), List.forall_mem_cons.mpr ⟨k_iret (show decode cX1_reason 47 = .ok (.ireturn, 1) by decide +kernel), List.forall_mem_cons.mpr ⟨k_ald_n (show decode cX1_reason 48 = .ok (.aload_n 0, 1) by decide +kernel) rfl, List.forall_mem_cons.mpr ⟨k_inv (M := mX1_isCurfew) (T := TX1) (N := 10) rfl rfl (show decode cX1_reason 49 = .ok (.invokevirtual 140, 3) by decide +kernel) rfl (by decide) (by decide +kernel) (by decide) (gw2 192 rfl rfl) (gw2 189 rfl rfl) (gw2 191 rfl rfl) (gs1 10 rfl) (gw1 2 rfl rfl) (fun _ h => absurd h List.not_mem_nil), List.forall_mem_cons.mpr ⟨k_if_eq (show decode cX1_reason 52 = .ok (.ifCond .eq 5, 3) by decide +kernel) (by decide), List.forall_mem_cons.mpr ⟨k_iconst (show decode cX1_reason 55 = .ok (.iconst 5, 1) by decide +kernel) (by decide +kernel), List.forall_mem_cons.mpr ⟨k_iret (show decode cX1_reason 56 = .ok (.ireturn, 1) by decide +kernel), List.forall_mem_cons.mpr ⟨k_ald_n (show decode cX1_reason 57 = .ok (.aload_n 2, 1) by decide +kernel) rfl, List.forall_mem_cons.mpr ⟨k_getf (C := RX0) (T := TX0) (N := 10) (show decode cX1_reason 58 = .ok (.getfield 150, 3) by decide +kernel) rfl inX0 (by decide) (gw1 124 rfl rfl) (by decide), List.forall_mem_cons.mpr ⟨k_iconst (show decode cX1_reason 61 = .ok (.iconst (-1), 1) by decide +kernel) (by decide +kernel), List.forall_mem_cons.mpr ⟨k_icmp_eq (show decode cX1_reason 62 = .ok (.if_icmp .eq 32, 3) by decide +kernel) (by decide), List.forall_mem_cons.mpr ⟨k_ald_n (show decode cX1_reason 65 = .ok (.aload_n 0, 1) by decide +kernel) rfl, List.forall_mem_cons.mpr ⟨k_ald_n (show decode cX1_reason 66 = .ok (.aload_n 2, 1) by decide +kernel) rfl, List.forall_mem_cons.mpr ⟨k_getf (C := RX0) (T := TX0) (N := 10) (show decode cX1_reason 67 = .ok (.getfield 150, 3) by decide +kernel) rfl inX0 (by decide) (gw1 124 rfl rfl) (by decide), fun _ h => absurd h List.not_mem_nil⟩⟩⟩⟩⟩⟩⟩⟩⟩⟩⟩⟩⟩⟩⟩⟩⟩⟩⟩⟩⟩⟩⟩⟩⟩⟩⟩⟩⟩⟩⟩⟩⟩⟩⟩⟩⟩⟩⟩⟩
set_option maxRecDepth 20000 in
theorem okX1_reason_p2 : ∀ q ∈ jcX1_reason_p2, JOk mtab cX1_reason RX1 ("reason", []) 3 none q.1 q.2 := by
  unfold jcX1_reason_p2
  exact List.forall_mem_cons.mpr ⟨k_iconst (show decode cX1_reason 70 = .ok (.iconst 1, 1) by decide +kernel) (by decide +kernel), List.forall_mem_cons.mpr ⟨k_isub (show decode cX1_reason 71 = .ok (.isub, 1) by decide +kernel), List.forall_mem_cons.mpr ⟨k_inv (M := mX1_isPushedFrom) (T := TX1) (N := 10) rfl rfl (show decode cX1_reason 72 = .ok (.invokevirtual 196, 3) by decide +kernel) rfl (by decide) (by decide +kernel) (by decide) (gw2 196 rfl rfl) (gw2 193 rfl rfl) (gw2 195 rfl rfl) (gs1 11 rfl) (gw1 2 rfl rfl) (fun _ h => absurd h List.not_mem_nil), List.forall_mem_cons.mpr ⟨k_if_ne (show decode cX1_reason 75 = .ok (.ifCond .ne 16, 3) by decide +kernel) (by decide), List.forall_mem_cons.mpr ⟨k_ald_n (show decode cX1_reason 78 = .ok (.aload_n 0, 1) by decide +kernel) rfl, List.forall_mem_cons.mpr ⟨k_ald_n (show decode cX1_reason 79 = .ok (.aload_n 2, 1) by decide +kernel) rfl, List.forall_mem_cons.mpr ⟨k_getf (C := RX0) (T := TX0) (N := 10) (show decode cX1_reason 80 = .ok (.getfield 150, 3) by decide +kernel) rfl inX0 (by decide) (gw1 124 rfl rfl) (by decide), List.forall_mem_cons.mpr ⟨k_iconst (show decode cX1_reason 83 = .ok (.iconst 1, 1) by decide +kernel) (by decide +kernel), List.forall_mem_cons.mpr ⟨k_iadd (show decode cX1_reason 84 = .ok (.iadd, 1) by decide +kernel), List.forall_mem_cons.mpr ⟨k_inv (M := mX1_isPushedFrom) (T := TX1) (N := 10) rfl rfl (show decode cX1_reason 85 = .ok (.invokevirtual 196, 3) by decide +kernel) rfl (by decide) (by decide +kernel) (by decide) (gw2 196 rfl rfl) (gw2 193 rfl rfl) (gw2 195 rfl rfl) (gs1 11 rfl) (gw1 2 rfl rfl) (fun _ h => absurd h List.not_mem_nil), List.forall_mem_cons.mpr ⟨k_if_eq (show decode cX1_reason 88 = .ok (.ifCond .eq 6, 3) by decide +kernel) (by decide), List.forall_mem_cons.mpr ⟨k_bipush (show decode cX1_reason 91 = .ok (.bipush 6, 2) by decide +kernel) (by decide +kernel), List.forall_mem_cons.mpr ⟨k_iret (show decode cX1_reason 93 = .ok (.ireturn, 1) by decide +kernel), List.forall_mem_cons.mpr ⟨k_ald_n (show decode cX1_reason 94 = .ok (.aload_n 0, 1) by decide +kernel) rfl, List.forall_mem_cons.mpr ⟨k_ald_n (show decode cX1_reason 95 = .ok (.aload_n 2, 1) by decide +kernel) rfl, List.forall_mem_cons.mpr ⟨k_getf (C := RX0) (T := TX0) (N := 10) (show decode cX1_reason 96 = .ok (.getfield 174, 3) by decide +kernel) rfl inX0 (by decide) (gw1 112 rfl rfl) (by decide), List.forall_mem_cons.mpr ⟨k_inv (M := mX1_freeTugFor) (T := TX1) (N := 10) rfl rfl (show decode cX1_reason 99 = .ok (.invokevirtual 177, 3) by decide +kernel) rfl (by decide) (by decide +kernel) (by decide) (gw2 200 rfl rfl) (gw2 197 rfl rfl) (gw2 199 rfl rfl) (gs1 12 rfl) (gw1 2 rfl rfl) (fun _ h => absurd h List.not_mem_nil), List.forall_mem_cons.mpr ⟨k_iconst (show decode cX1_reason 102 = .ok (.iconst (-1), 1) by decide +kernel) (by decide +kernel), List.forall_mem_cons.mpr ⟨k_icmp_ne (show decode cX1_reason 103 = .ok (.if_icmp .ne 8, 3) by decide +kernel) (by decide), List.forall_mem_cons.mpr ⟨k_bipush (show decode cX1_reason 106 = .ok (.bipush 7, 2) by decide +kernel) (by decide +kernel), List.forall_mem_cons.mpr ⟨k_goto (show decode cX1_reason 108 = .ok (.goto 4, 3) by decide +kernel) (by decide), List.forall_mem_cons.mpr ⟨k_iconst (show decode cX1_reason 111 = .ok (.iconst 0, 1) by decide +kernel) (by decide +kernel), List.forall_mem_cons.mpr ⟨k_iret (show decode cX1_reason 112 = .ok (.ireturn, 1) by decide +kernel), fun _ h => absurd h List.not_mem_nil⟩⟩⟩⟩⟩⟩⟩⟩⟩⟩⟩⟩⟩⟩⟩⟩⟩⟩⟩⟩⟩⟩⟩
theorem okX1_reason : ∀ q ∈ jcX1_reason, JOk mtab cX1_reason RX1 ("reason", []) 3 none q.1 q.2 := by
  unfold jcX1_reason
  exact List.forall_mem_append.mpr ⟨okX1_reason_p1, okX1_reason_p2⟩
set_option maxRecDepth 20000 in
theorem okX1_isCurfew : ∀ q ∈ jcX1_isCurfew, JOk mtab cX1_isCurfew RX1 ("isCurfew", []) 2 none q.1 q.2 := by
  unfold jcX1_isCurfew
  exact List.forall_mem_cons.mpr ⟨k_ald_n (show decode cX1_isCurfew 0 = .ok (.aload_n 0, 1) by decide +kernel) rfl, List.forall_mem_cons.mpr ⟨k_getf (C := RX1) (T := TX1) (N := 10) (show decode cX1_isCurfew 1 = .ok (.getfield 64, 3) by decide +kernel) rfl inX1 (by decide) (gw1 182 rfl rfl) (by decide), List.forall_mem_cons.mpr ⟨k_sipush (show decode cX1_isCurfew 4 = .ok (.sipush 1440, 3) by decide +kernel) (by decide +kernel), List.forall_mem_cons.mpr ⟨k_irem (show decode cX1_isCurfew 7 = .ok (.irem, 1) by decide +kernel), List.forall_mem_cons.mpr ⟨k_ist_n (show decode cX1_isCurfew 8 = .ok (.istore_n 1, 1) by decide +kernel) rfl (by decide), List.forall_mem_cons.mpr ⟨k_ild_n (show decode cX1_isCurfew 9 = .ok (.iload_n 1, 1) by decide +kernel) rfl, List.forall_mem_cons.mpr ⟨k_ald_n (show decode cX1_isCurfew 10 = .ok (.aload_n 0, 1) by decide +kernel) rfl, List.forall_mem_cons.mpr ⟨k_getf (C := RX1) (T := TX1) (N := 10) (show decode cX1_isCurfew 11 = .ok (.getfield 70, 3) by decide +kernel) rfl inX1 (by decide) (gw1 183 rfl rfl) (by decide), List.forall_mem_cons.mpr ⟨k_icmp_lt (show decode cX1_isCurfew 14 = .ok (.if_icmp .lt 15, 3) by decide +kernel) (by decide), List.forall_mem_cons.mpr ⟨k_ild_n (show decode cX1_isCurfew 17 = .ok (.iload_n 1, 1) by decide +kernel) rfl, List.forall_mem_cons.mpr ⟨k_ald_n (show decode cX1_isCurfew 18 = .ok (.aload_n 0, 1) by decide +kernel) rfl, List.forall_mem_cons.mpr ⟨k_getf (C := RX1) (T := TX1) (N := 10) (show decode cX1_isCurfew 19 = .ok (.getfield 73, 3) by decide +kernel) rfl inX1 (by decide) (gw1 185 rfl rfl) (by decide), List.forall_mem_cons.mpr ⟨k_icmp_ge (show decode cX1_isCurfew 22 = .ok (.if_icmp .ge 7, 3) by decide +kernel) (by decide), List.forall_mem_cons.mpr ⟨k_iconst (show decode cX1_isCurfew 25 = .ok (.iconst 1, 1) by decide +kernel) (by decide +kernel), List.forall_mem_cons.mpr ⟨k_goto (show decode cX1_isCurfew 26 = .ok (.goto 4, 3) by decide +kernel) (by decide), List.forall_mem_cons.mpr ⟨k_iconst (show decode cX1_isCurfew 29 = .ok (.iconst 0, 1) by decide +kernel) (by decide +kernel), List.forall_mem_cons.mpr ⟨k_iret (show decode cX1_isCurfew 30 = .ok (.ireturn, 1) by decide +kernel), fun _ h => absurd h List.not_mem_nil⟩⟩⟩⟩⟩⟩⟩⟩⟩⟩⟩⟩⟩⟩⟩⟩⟩
set_option maxRecDepth 20000 in
theorem okX1_isPushedFrom : ∀ q ∈ jcX1_isPushedFrom, JOk mtab cX1_isPushedFrom RX1 ("isPushedFrom", []) 2 none q.1 q.2 := by
  unfold jcX1_isPushedFrom
  exact List.forall_mem_cons.mpr ⟨k_ild_n (show decode cX1_isPushedFrom 0 = .ok (.iload_n 1, 1) by decide +kernel) rfl, List.forall_mem_cons.mpr ⟨k_if_lt (show decode cX1_isPushedFrom 1 = .ok (.ifCond .lt 49, 3) by decide +kernel) (by decide), List.forall_mem_cons.mpr ⟨k_ild_n (show decode cX1_isPushedFrom 4 = .ok (.iload_n 1, 1) by decide +kernel) rfl, List.forall_mem_cons.mpr ⟨k_ald_n (show decode cX1_isPushedFrom 5 = .ok (.aload_n 0, 1) by decide +kernel) rfl, List.forall_mem_cons.mpr ⟨k_getf (C := RX1) (T := TX1) (N := 10) (show decode cX1_isPushedFrom 6 = .ok (.getfield 43, 3) by decide +kernel) rfl inX1 (by decide) (gw1 176 rfl rfl) (by decide), List.forall_mem_cons.mpr ⟨k_icmp_ge (show decode cX1_isPushedFrom 9 = .ok (.if_icmp .ge 41, 3) by decide +kernel) (by decide), List.forall_mem_cons.mpr ⟨k_ald_n (show decode cX1_isPushedFrom 12 = .ok (.aload_n 0, 1) by decide +kernel) rfl, List.forall_mem_cons.mpr ⟨k_getf (C := RX1) (T := TX1) (N := 10) (show decode cX1_isPushedFrom 13 = .ok (.getfield 11, 3) by decide +kernel) rfl inX1 (by decide) (gw1 169 rfl rfl) (by decide), List.forall_mem_cons.mpr ⟨k_ild_n (show decode cX1_isPushedFrom 16 = .ok (.iload_n 1, 1) by decide +kernel) rfl, List.forall_mem_cons.mpr ⟨k_aald (show decode cX1_isPushedFrom 17 = .ok (.aaload, 1) by decide +kernel) (by decide) rfl, List.forall_mem_cons.mpr ⟨k_getf (C := RX3) (T := TX3) (N := 3) (show decode cX1_isPushedFrom 18 = .ok (.getfield 153, 3) by decide +kernel) rfl inX3 (by decide) (gw1 66 rfl rfl) (by decide), List.forall_mem_cons.mpr ⟨k_iconst (show decode cX1_isPushedFrom 21 = .ok (.iconst (-1), 1) by decide +kernel) (by decide +kernel), List.forall_mem_cons.mpr ⟨k_icmp_eq (show decode cX1_isPushedFrom 22 = .ok (.if_icmp .eq 28, 3) by decide +kernel) (by decide), List.forall_mem_cons.mpr ⟨k_ald_n (show decode cX1_isPushedFrom 25 = .ok (.aload_n 0, 1) by decide +kernel) rfl, List.forall_mem_cons.mpr ⟨k_getf (C := RX1) (T := TX1) (N := 10) (show decode cX1_isPushedFrom 26 = .ok (.getfield 25, 3) by decide +kernel) rfl inX1 (by decide) (gw1 173 rfl rfl) (by decide), List.forall_mem_cons.mpr ⟨k_ald_n (show decode cX1_isPushedFrom 29 = .ok (.aload_n 0, 1) by decide +kernel) rfl, List.forall_mem_cons.mpr ⟨k_getf (C := RX1) (T := TX1) (N := 10) (show decode cX1_isPushedFrom 30 = .ok (.getfield 11, 3) by decide +kernel) rfl inX1 (by decide) (gw1 169 rfl rfl) (by decide), List.forall_mem_cons.mpr ⟨k_ild_n (show decode cX1_isPushedFrom 33 = .ok (.iload_n 1, 1) by decide +kernel) rfl, List.forall_mem_cons.mpr ⟨k_aald (show decode cX1_isPushedFrom 34 = .ok (.aaload, 1) by decide +kernel) (by decide) rfl, List.forall_mem_cons.mpr ⟨k_getf (C := RX3) (T := TX3) (N := 3) (show decode cX1_isPushedFrom 35 = .ok (.getfield 153, 3) by decide +kernel) rfl inX3 (by decide) (gw1 66 rfl rfl) (by decide), List.forall_mem_cons.mpr ⟨k_aald (show decode cX1_isPushedFrom 38 = .ok (.aaload, 1) by decide +kernel) (by decide) rfl, List.forall_mem_cons.mpr ⟨k_getf (C := RX0) (T := TX0) (N := 10) (show decode cX1_isPushedFrom 39 = .ok (.getfield 127, 3) by decide +kernel) rfl inX0 (by decide) (gw1 122 rfl rfl) (by decide), List.forall_mem_cons.mpr ⟨k_iconst (show decode cX1_isPushedFrom 42 = .ok (.iconst 4, 1) by decide +kernel) (by decide +kernel), List.forall_mem_cons.mpr ⟨k_icmp_ne (show decode cX1_isPushedFrom 43 = .ok (.if_icmp .ne 7, 3) by decide +kernel) (by decide), List.forall_mem_cons.mpr ⟨k_iconst (show decode cX1_isPushedFrom 46 = .ok (.iconst 1, 1) by decide +kernel) (by decide +kernel), List.forall_mem_cons.mpr ⟨k_goto (show decode cX1_isPushedFrom 47 = .ok (.goto 4, 3) by decide +kernel) (by decide), List.forall_mem_cons.mpr ⟨k_iconst (show decode cX1_isPushedFrom 50 = .ok (.iconst 0, 1) by decide +kernel) (by decide +kernel), List.forall_mem_cons.mpr ⟨k_iret (show decode cX1_isPushedFrom 51 = .ok (.ireturn, 1) by decide +kernel), fun _ h => absurd h List.not_mem_nil⟩⟩⟩⟩⟩⟩⟩⟩⟩⟩⟩⟩⟩⟩⟩⟩⟩⟩⟩⟩⟩⟩⟩⟩⟩⟩⟩⟩
set_option maxRecDepth 20000 in
theorem okX1_passUntilAllGone : ∀ q ∈ jcX1_passUntilAllGone, JOk mtab cX1_passUntilAllGone RX1 ("passUntilAllGone", []) 3 none q.1 q.2 := by
  unfold jcX1_passUntilAllGone
  exact List.forall_mem_cons.mpr ⟨k_iconst (show decode cX1_passUntilAllGone 0 = .ok (.iconst 0, 1) by decide +kernel) (by decide +kernel), List.forall_mem_cons.mpr ⟨k_ist_n (show decode cX1_passUntilAllGone 1 = .ok (.istore_n 1, 1) by decide +kernel) rfl (by decide), List.forall_mem_cons.mpr ⟨k_iconst (show decode cX1_passUntilAllGone 2 = .ok (.iconst 0, 1) by decide +kernel) (by decide +kernel), List.forall_mem_cons.mpr ⟨k_ist_n (show decode cX1_passUntilAllGone 3 = .ok (.istore_n 2, 1) by decide +kernel) rfl (by decide), List.forall_mem_cons.mpr ⟨k_ild_n (show decode cX1_passUntilAllGone 4 = .ok (.iload_n 2, 1) by decide +kernel) rfl, List.forall_mem_cons.mpr ⟨k_sipush (show decode cX1_passUntilAllGone 5 = .ok (.sipush 3000, 3) by decide +kernel) (by decide +kernel), List.forall_mem_cons.mpr ⟨k_icmp_ge (show decode cX1_passUntilAllGone 8 = .ok (.if_icmp .ge 35, 3) by decide +kernel) (by decide), List.forall_mem_cons.mpr ⟨k_ild_n (show decode cX1_passUntilAllGone 11 = .ok (.iload_n 1, 1) by decide +kernel) rfl, List.forall_mem_cons.mpr ⟨k_sipush (show decode cX1_passUntilAllGone 12 = .ok (.sipush 3000, 3) by decide +kernel) (by decide +kernel), List.forall_mem_cons.mpr ⟨k_icmp_ge (show decode cX1_passUntilAllGone 15 = .ok (.if_icmp .ge 28, 3) by decide +kernel) (by decide), List.forall_mem_cons.mpr ⟨k_ald_n (show decode cX1_passUntilAllGone 18 = .ok (.aload_n 0, 1) by decide +kernel) rfl, List.forall_mem_cons.mpr ⟨k_inv (M := mX1_areAllGone) (T := TX1) (N := 10) rfl rfl (show decode cX1_passUntilAllGone 19 = .ok (.invokevirtual 200, 3) by decide +kernel) rfl (by decide) (by decide +kernel) (by decide) (gw3 25 rfl rfl) (gw3 22 rfl rfl) (gw3 24 rfl rfl) (gs2 2 rfl) (gw1 2 rfl rfl) (fun _ h => absurd h List.not_mem_nil), List.forall_mem_cons.mpr ⟨k_if_ne (show decode cX1_passUntilAllGone 22 = .ok (.ifCond .ne 21, 3) by decide +kernel) (by decide), List.forall_mem_cons.mpr ⟨k_ild_n (show decode cX1_passUntilAllGone 25 = .ok (.iload_n 1, 1) by decide +kernel) rfl, List.forall_mem_cons.mpr ⟨k_ald_n (show decode cX1_passUntilAllGone 26 = .ok (.aload_n 0, 1) by decide +kernel) rfl, List.forall_mem_cons.mpr ⟨k_sipush (show decode cX1_passUntilAllGone 27 = .ok (.sipush 3000, 3) by decide +kernel) (by decide +kernel), List.forall_mem_cons.mpr ⟨k_ild_n (show decode cX1_passUntilAllGone 30 = .ok (.iload_n 1, 1) by decide +kernel) rfl, List.forall_mem_cons.mpr ⟨k_isub (show decode cX1_passUntilAllGone 31 = .ok (.isub, 1) by decide +kernel), List.forall_mem_cons.mpr ⟨k_inv (M := mX1_passSome) (T := TX1) (N := 10) rfl rfl (show decode cX1_passUntilAllGone 32 = .ok (.invokevirtual 203, 3) by decide +kernel) rfl (by decide) (by decide +kernel) (by decide) (gw2 144 rfl rfl) (gw3 26 rfl rfl) (gw2 142 rfl rfl) (gw2 143 rfl rfl) (gw1 2 rfl rfl) (fun _ h => absurd h List.not_mem_nil), List.forall_mem_cons.mpr ⟨k_iadd (show decode cX1_passUntilAllGone 35 = .ok (.iadd, 1) by decide +kernel), List.forall_mem_cons.mpr ⟨k_ist_n (show decode cX1_passUntilAllGone 36 = .ok (.istore_n 1, 1) by decide +kernel) rfl (by decide), List.forall_mem_cons.mpr ⟨k_iinc (show decode cX1_passUntilAllGone 37 = .ok (.iinc 2 1, 3) by decide +kernel) (by decide +kernel) (by decide), List.forall_mem_cons.mpr ⟨k_goto (show decode cX1_passUntilAllGone 40 = .ok (.goto (-36), 3) by decide +kernel) (by decide), List.forall_mem_cons.mpr ⟨k_ald_n (show decode cX1_passUntilAllGone 43 = .ok (.aload_n 0, 1) by decide +kernel) rfl, List.forall_mem_cons.mpr ⟨k_inv (M := mX1_areAllGone) (T := TX1) (N := 10) rfl rfl (show decode cX1_passUntilAllGone 44 = .ok (.invokevirtual 200, 3) by decide +kernel) rfl (by decide) (by decide +kernel) (by decide) (gw3 25 rfl rfl) (gw3 22 rfl rfl) (gw3 24 rfl rfl) (gs2 2 rfl) (gw1 2 rfl rfl) (fun _ h => absurd h List.not_mem_nil), List.forall_mem_cons.mpr ⟨k_if_eq (show decode cX1_passUntilAllGone 47 = .ok (.ifCond .eq 7, 3) by decide +kernel) (by decide), List.forall_mem_cons.mpr ⟨k_ild_n (show decode cX1_passUntilAllGone 50 = .ok (.iload_n 1, 1) by decide +kernel) rfl, List.forall_mem_cons.mpr ⟨k_goto (show decode cX1_passUntilAllGone 51 = .ok (.goto 4, 3) by decide +kernel) (by decide), List.forall_mem_cons.mpr ⟨k_iconst (show decode cX1_passUntilAllGone 54 = .ok (.iconst (-1), 1) by decide +kernel) (by decide +kernel), List.forall_mem_cons.mpr ⟨k_iret (show decode cX1_passUntilAllGone 55 = .ok (.ireturn, 1) by decide +kernel), fun _ h => absurd h List.not_mem_nil⟩⟩⟩⟩⟩⟩⟩⟩⟩⟩⟩⟩⟩⟩⟩⟩⟩⟩⟩⟩⟩⟩⟩⟩⟩⟩⟩⟩⟩⟩
set_option maxRecDepth 20000 in
theorem okX1_areAllGone : ∀ q ∈ jcX1_areAllGone, JOk mtab cX1_areAllGone RX1 ("areAllGone", []) 1 none q.1 q.2 := by
  unfold jcX1_areAllGone
  exact List.forall_mem_cons.mpr ⟨k_ald_n (show decode cX1_areAllGone 0 = .ok (.aload_n 0, 1) by decide +kernel) rfl, List.forall_mem_cons.mpr ⟨k_iconst (show decode cX1_areAllGone 1 = .ok (.iconst 5, 1) by decide +kernel) (by decide +kernel), List.forall_mem_cons.mpr ⟨k_inv (M := mX1_countAt) (T := TX1) (N := 10) rfl rfl (show decode cX1_areAllGone 2 = .ok (.invokevirtual 206, 3) by decide +kernel) rfl (by decide) (by decide +kernel) (by decide) (gw2 140 rfl rfl) (gw3 13 rfl rfl) (gw2 138 rfl rfl) (gw2 139 rfl rfl) (gw1 2 rfl rfl) (fun _ h => absurd h List.not_mem_nil), List.forall_mem_cons.mpr ⟨k_ald_n (show decode cX1_areAllGone 5 = .ok (.aload_n 0, 1) by decide +kernel) rfl, List.forall_mem_cons.mpr ⟨k_getf (C := RX1) (T := TX1) (N := 10) (show decode cX1_areAllGone 6 = .ok (.getfield 61, 3) by decide +kernel) rfl inX1 (by decide) (gw1 179 rfl rfl) (by decide), List.forall_mem_cons.mpr ⟨k_icmp_ne (show decode cX1_areAllGone 9 = .ok (.if_icmp .ne 7, 3) by decide +kernel) (by decide), List.forall_mem_cons.mpr ⟨k_iconst (show decode cX1_areAllGone 12 = .ok (.iconst 1, 1) by decide +kernel) (by decide +kernel), List.forall_mem_cons.mpr ⟨k_goto (show decode cX1_areAllGone 13 = .ok (.goto 4, 3) by decide +kernel) (by decide), List.forall_mem_cons.mpr ⟨k_iconst (show decode cX1_areAllGone 16 = .ok (.iconst 0, 1) by decide +kernel) (by decide +kernel), List.forall_mem_cons.mpr ⟨k_iret (show decode cX1_areAllGone 17 = .ok (.ireturn, 1) by decide +kernel), fun _ h => absurd h List.not_mem_nil⟩⟩⟩⟩⟩⟩⟩⟩⟩⟩
set_option maxRecDepth 20000 in
theorem okX1_countAt : ∀ q ∈ jcX1_countAt, JOk mtab cX1_countAt RX1 ("countAt", []) 4 none q.1 q.2 := by
  unfold jcX1_countAt
  exact List.forall_mem_cons.mpr ⟨k_iconst (show decode cX1_countAt 0 = .ok (.iconst 0, 1) by decide +kernel) (by decide +kernel), List.forall_mem_cons.mpr ⟨k_ist_n (show decode cX1_countAt 1 = .ok (.istore_n 2, 1) by decide +kernel) rfl (by decide), List.forall_mem_cons.mpr ⟨k_iconst (show decode cX1_countAt 2 = .ok (.iconst 0, 1) by decide +kernel) (by decide +kernel), List.forall_mem_cons.mpr ⟨k_ist_n (show decode cX1_countAt 3 = .ok (.istore_n 3, 1) by decide +kernel) rfl (by decide), List.forall_mem_cons.mpr ⟨k_ild_n (show decode cX1_countAt 4 = .ok (.iload_n 3, 1) by decide +kernel) rfl, List.forall_mem_cons.mpr ⟨k_ald_n (show decode cX1_countAt 5 = .ok (.aload_n 0, 1) by decide +kernel) rfl, List.forall_mem_cons.mpr ⟨k_getf (C := RX1) (T := TX1) (N := 10) (show decode cX1_countAt 6 = .ok (.getfield 61, 3) by decide +kernel) rfl inX1 (by decide) (gw1 179 rfl rfl) (by decide), List.forall_mem_cons.mpr ⟨k_icmp_ge (show decode cX1_countAt 9 = .ok (.if_icmp .ge 25, 3) by decide +kernel) (by decide), List.forall_mem_cons.mpr ⟨k_ald_n (show decode cX1_countAt 12 = .ok (.aload_n 0, 1) by decide +kernel) rfl, List.forall_mem_cons.mpr ⟨k_getf (C := RX1) (T := TX1) (N := 10) (show decode cX1_countAt 13 = .ok (.getfield 25, 3) by decide +kernel) rfl inX1 (by decide) (gw1 173 rfl rfl) (by decide), List.forall_mem_cons.mpr ⟨k_ild_n (show decode cX1_countAt 16 = .ok (.iload_n 3, 1) by decide +kernel) rfl, List.forall_mem_cons.mpr ⟨k_aald (show decode cX1_countAt 17 = .ok (.aaload, 1) by decide +kernel) (by decide) rfl, List.forall_mem_cons.mpr ⟨k_getf (C := RX0) (T := TX0) (N := 10) (show decode cX1_countAt 18 = .ok (.getfield 127, 3) by decide +kernel) rfl inX0 (by decide) (gw1 122 rfl rfl) (by decide), List.forall_mem_cons.mpr ⟨k_ild_n (show decode cX1_countAt 21 = .ok (.iload_n 1, 1) by decide +kernel) rfl, List.forall_mem_cons.mpr ⟨k_icmp_ne (show decode cX1_countAt 22 = .ok (.if_icmp .ne 6, 3) by decide +kernel) (by decide), List.forall_mem_cons.mpr ⟨k_iinc (show decode cX1_countAt 25 = .ok (.iinc 2 1, 3) by decide +kernel) (by decide +kernel) (by decide), List.forall_mem_cons.mpr ⟨k_iinc (show decode cX1_countAt 28 = .ok (.iinc 3 1, 3) by decide +kernel) (by decide +kernel) (by decide), List.forall_mem_cons.mpr ⟨k_goto (show decode cX1_countAt 31 = .ok (.goto (-27), 3) by decide +kernel) (by decide), List.forall_mem_cons.mpr ⟨k_ild_n (show decode cX1_countAt 34 = .ok (.iload_n 2, 1) by decide +kernel) rfl, List.forall_mem_cons.mpr ⟨k_iret (show decode cX1_countAt 35 = .ok (.ireturn, 1) by decide +kernel), fun _ h => absurd h List.not_mem_nil⟩⟩⟩⟩⟩⟩⟩⟩⟩⟩⟩⟩⟩⟩⟩⟩⟩⟩⟩⟩
set_option maxRecDepth 20000 in
theorem okX1_sumOfDelays : ∀ q ∈ jcX1_sumOfDelays, JOk mtab cX1_sumOfDelays RX1 ("sumOfDelays", []) 3 none q.1 q.2 := by
  unfold jcX1_sumOfDelays
  exact List.forall_mem_cons.mpr ⟨k_iconst (show decode cX1_sumOfDelays 0 = .ok (.iconst 0, 1) by decide +kernel) (by decide +kernel), List.forall_mem_cons.mpr ⟨k_ist_n (show decode cX1_sumOfDelays 1 = .ok (.istore_n 1, 1) by decide +kernel) rfl (by decide), List.forall_mem_cons.mpr ⟨k_iconst (show decode cX1_sumOfDelays 2 = .ok (.iconst 0, 1) by decide +kernel) (by decide +kernel), List.forall_mem_cons.mpr ⟨k_ist_n (show decode cX1_sumOfDelays 3 = .ok (.istore_n 2, 1) by decide +kernel) rfl (by decide), List.forall_mem_cons.mpr ⟨k_ild_n (show decode cX1_sumOfDelays 4 = .ok (.iload_n 2, 1) by decide +kernel) rfl, List.forall_mem_cons.mpr ⟨k_ald_n (show decode cX1_sumOfDelays 5 = .ok (.aload_n 0, 1) by decide +kernel) rfl, List.forall_mem_cons.mpr ⟨k_getf (C := RX1) (T := TX1) (N := 10) (show decode cX1_sumOfDelays 6 = .ok (.getfield 61, 3) by decide +kernel) rfl inX1 (by decide) (gw1 179 rfl rfl) (by decide), List.forall_mem_cons.mpr ⟨k_icmp_ge (show decode cX1_sumOfDelays 9 = .ok (.if_icmp .ge 25, 3) by decide +kernel) (by decide), List.forall_mem_cons.mpr ⟨k_ild_n (show decode cX1_sumOfDelays 12 = .ok (.iload_n 1, 1) by decide +kernel) rfl, List.forall_mem_cons.mpr ⟨k_iconst (show decode cX1_sumOfDelays 13 = .ok (.iconst 0, 1) by decide +kernel) (by decide +kernel), List.forall_mem_cons.mpr ⟨k_ald_n (show decode cX1_sumOfDelays 14 = .ok (.aload_n 0, 1) by decide +kernel) rfl, List.forall_mem_cons.mpr ⟨k_getf (C := RX1) (T := TX1) (N := 10) (show decode cX1_sumOfDelays 15 = .ok (.getfield 25, 3) by decide +kernel) rfl inX1 (by decide) (gw1 173 rfl rfl) (by decide), List.forall_mem_cons.mpr ⟨k_ild_n (show decode cX1_sumOfDelays 18 = .ok (.iload_n 2, 1) by decide +kernel) rfl, List.forall_mem_cons.mpr ⟨k_aald (show decode cX1_sumOfDelays 19 = .ok (.aaload, 1) by decide +kernel) (by decide) rfl, List.forall_mem_cons.mpr ⟨k_getf (C := RX0) (T := TX0) (N := 10) (show decode cX1_sumOfDelays 20 = .ok (.getfield 180, 3) by decide +kernel) rfl inX0 (by decide) (gw1 127 rfl rfl) (by decide), List.forall_mem_cons.mpr ⟨k_mmax (show decode cX1_sumOfDelays 23 = .ok (.invokestatic 115, 3) by decide +kernel) (gw2 220 rfl rfl) (gw2 221 rfl rfl) (gw1 14 rfl rfl) (gw2 222 (by decide +kernel) rfl), List.forall_mem_cons.mpr ⟨k_iadd (show decode cX1_sumOfDelays 26 = .ok (.iadd, 1) by decide +kernel), List.forall_mem_cons.mpr ⟨k_ist_n (show decode cX1_sumOfDelays 27 = .ok (.istore_n 1, 1) by decide +kernel) rfl (by decide), List.forall_mem_cons.mpr ⟨k_iinc (show decode cX1_sumOfDelays 28 = .ok (.iinc 2 1, 3) by decide +kernel) (by decide +kernel) (by decide), List.forall_mem_cons.mpr ⟨k_goto (show decode cX1_sumOfDelays 31 = .ok (.goto (-27), 3) by decide +kernel) (by decide), List.forall_mem_cons.mpr ⟨k_ild_n (show decode cX1_sumOfDelays 34 = .ok (.iload_n 1, 1) by decide +kernel) rfl, List.forall_mem_cons.mpr ⟨k_iret (show decode cX1_sumOfDelays 35 = .ok (.ireturn, 1) by decide +kernel), fun _ h => absurd h List.not_mem_nil⟩⟩⟩⟩⟩⟩⟩⟩⟩⟩⟩⟩⟩⟩⟩⟩⟩⟩⟩⟩⟩⟩
set_option maxRecDepth 20000 in
theorem okX1_greatestDelay : ∀ q ∈ jcX1_greatestDelay, JOk mtab cX1_greatestDelay RX1 ("greatestDelay", []) 3 none q.1 q.2 := by
  unfold jcX1_greatestDelay
  exact List.forall_mem_cons.mpr ⟨k_iconst (show decode cX1_greatestDelay 0 = .ok (.iconst 0, 1) by decide +kernel) (by decide +kernel), List.forall_mem_cons.mpr ⟨k_ist_n (show decode cX1_greatestDelay 1 = .ok (.istore_n 1, 1) by decide +kernel) rfl (by decide), List.forall_mem_cons.mpr ⟨k_iconst (show decode cX1_greatestDelay 2 = .ok (.iconst 0, 1) by decide +kernel) (by decide +kernel), List.forall_mem_cons.mpr ⟨k_ist_n (show decode cX1_greatestDelay 3 = .ok (.istore_n 2, 1) by decide +kernel) rfl (by decide), List.forall_mem_cons.mpr ⟨k_ild_n (show decode cX1_greatestDelay 4 = .ok (.iload_n 2, 1) by decide +kernel) rfl, List.forall_mem_cons.mpr ⟨k_ald_n (show decode cX1_greatestDelay 5 = .ok (.aload_n 0, 1) by decide +kernel) rfl, List.forall_mem_cons.mpr ⟨k_getf (C := RX1) (T := TX1) (N := 10) (show decode cX1_greatestDelay 6 = .ok (.getfield 61, 3) by decide +kernel) rfl inX1 (by decide) (gw1 179 rfl rfl) (by decide), List.forall_mem_cons.mpr ⟨k_icmp_ge (show decode cX1_greatestDelay 9 = .ok (.if_icmp .ge 23, 3) by decide +kernel) (by decide), List.forall_mem_cons.mpr ⟨k_ild_n (show decode cX1_greatestDelay 12 = .ok (.iload_n 1, 1) by decide +kernel) rfl, List.forall_mem_cons.mpr ⟨k_ald_n (show decode cX1_greatestDelay 13 = .ok (.aload_n 0, 1) by decide +kernel) rfl, List.forall_mem_cons.mpr ⟨k_getf (C := RX1) (T := TX1) (N := 10) (show decode cX1_greatestDelay 14 = .ok (.getfield 25, 3) by decide +kernel) rfl inX1 (by decide) (gw1 173 rfl rfl) (by decide), List.forall_mem_cons.mpr ⟨k_ild_n (show decode cX1_greatestDelay 17 = .ok (.iload_n 2, 1) by decide +kernel) rfl, List.forall_mem_cons.mpr ⟨k_aald (show decode cX1_greatestDelay 18 = .ok (.aaload, 1) by decide +kernel) (by decide) rfl, List.forall_mem_cons.mpr ⟨k_getf (C := RX0) (T := TX0) (N := 10) (show decode cX1_greatestDelay 19 = .ok (.getfield 180, 3) by decide +kernel) rfl inX0 (by decide) (gw1 127 rfl rfl) (by decide), List.forall_mem_cons.mpr ⟨k_mmax (show decode cX1_greatestDelay 22 = .ok (.invokestatic 115, 3) by decide +kernel) (gw2 220 rfl rfl) (gw2 221 rfl rfl) (gw1 14 rfl rfl) (gw2 222 (by decide +kernel) rfl), List.forall_mem_cons.mpr ⟨k_ist_n (show decode cX1_greatestDelay 25 = .ok (.istore_n 1, 1) by decide +kernel) rfl (by decide), List.forall_mem_cons.mpr ⟨k_iinc (show decode cX1_greatestDelay 26 = .ok (.iinc 2 1, 3) by decide +kernel) (by decide +kernel) (by decide), List.forall_mem_cons.mpr ⟨k_goto (show decode cX1_greatestDelay 29 = .ok (.goto (-25), 3) by decide +kernel) (by decide), List.forall_mem_cons.mpr ⟨k_ild_n (show decode cX1_greatestDelay 32 = .ok (.iload_n 1, 1) by decide +kernel) rfl, List.forall_mem_cons.mpr ⟨k_iret (show decode cX1_greatestDelay 33 = .ok (.ireturn, 1) by decide +kernel), fun _ h => absurd h List.not_mem_nil⟩⟩⟩⟩⟩⟩⟩⟩⟩⟩⟩⟩⟩⟩⟩⟩⟩⟩⟩⟩
set_option maxRecDepth 20000 in
theorem okX1_sumOfBuses : ∀ q ∈ jcX1_sumOfBuses, JOk mtab cX1_sumOfBuses RX1 ("sumOfBuses", []) 3 none q.1 q.2 := by
  unfold jcX1_sumOfBuses
  exact List.forall_mem_cons.mpr ⟨k_iconst (show decode cX1_sumOfBuses 0 = .ok (.iconst 0, 1) by decide +kernel) (by decide +kernel), List.forall_mem_cons.mpr ⟨k_ist_n (show decode cX1_sumOfBuses 1 = .ok (.istore_n 1, 1) by decide +kernel) rfl (by decide), List.forall_mem_cons.mpr ⟨k_iconst (show decode cX1_sumOfBuses 2 = .ok (.iconst 0, 1) by decide +kernel) (by decide +kernel), List.forall_mem_cons.mpr ⟨k_ist_n (show decode cX1_sumOfBuses 3 = .ok (.istore_n 2, 1) by decide +kernel) rfl (by decide), List.forall_mem_cons.mpr ⟨k_ild_n (show decode cX1_sumOfBuses 4 = .ok (.iload_n 2, 1) by decide +kernel) rfl, List.forall_mem_cons.mpr ⟨k_ald_n (show decode cX1_sumOfBuses 5 = .ok (.aload_n 0, 1) by decide +kernel) rfl, List.forall_mem_cons.mpr ⟨k_getf (C := RX1) (T := TX1) (N := 10) (show decode cX1_sumOfBuses 6 = .ok (.getfield 61, 3) by decide +kernel) rfl inX1 (by decide) (gw1 179 rfl rfl) (by decide), List.forall_mem_cons.mpr ⟨k_icmp_ge (show decode cX1_sumOfBuses 9 = .ok (.if_icmp .ge 21, 3) by decide +kernel) (by decide), List.forall_mem_cons.mpr ⟨k_ild_n (show decode cX1_sumOfBuses 12 = .ok (.iload_n 1, 1) by decide +kernel) rfl, List.forall_mem_cons.mpr ⟨k_ald_n (show decode cX1_sumOfBuses 13 = .ok (.aload_n 0, 1) by decide +kernel) rfl, List.forall_mem_cons.mpr ⟨k_getf (C := RX1) (T := TX1) (N := 10) (show decode cX1_sumOfBuses 14 = .ok (.getfield 25, 3) by decide +kernel) rfl inX1 (by decide) (gw1 173 rfl rfl) (by decide), List.forall_mem_cons.mpr ⟨k_ild_n (show decode cX1_sumOfBuses 17 = .ok (.iload_n 2, 1) by decide +kernel) rfl, List.forall_mem_cons.mpr ⟨k_aald (show decode cX1_sumOfBuses 18 = .ok (.aaload, 1) by decide +kernel) (by decide) rfl, List.forall_mem_cons.mpr ⟨k_getf (C := RX0) (T := TX0) (N := 10) (show decode cX1_sumOfBuses 19 = .ok (.getfield 209, 3) by decide +kernel) rfl inX0 (by decide) (gw1 131 rfl rfl) (by decide), List.forall_mem_cons.mpr ⟨k_iadd (show decode cX1_sumOfBuses 22 = .ok (.iadd, 1) by decide +kernel), List.forall_mem_cons.mpr ⟨k_ist_n (show decode cX1_sumOfBuses 23 = .ok (.istore_n 1, 1) by decide +kernel) rfl (by decide), List.forall_mem_cons.mpr ⟨k_iinc (show decode cX1_sumOfBuses 24 = .ok (.iinc 2 1, 3) by decide +kernel) (by decide +kernel) (by decide), List.forall_mem_cons.mpr ⟨k_goto (show decode cX1_sumOfBuses 27 = .ok (.goto (-23), 3) by decide +kernel) (by decide), List.forall_mem_cons.mpr ⟨k_ild_n (show decode cX1_sumOfBuses 30 = .ok (.iload_n 1, 1) by decide +kernel) rfl, List.forall_mem_cons.mpr ⟨k_iret (show decode cX1_sumOfBuses 31 = .ok (.ireturn, 1) by decide +kernel), fun _ h => absurd h List.not_mem_nil⟩⟩⟩⟩⟩⟩⟩⟩⟩⟩⟩⟩⟩⟩⟩⟩⟩⟩⟩⟩
set_option maxRecDepth 20000 in
theorem okX1_standAnswer : ∀ q ∈ jcX1_standAnswer, JOk mtab cX1_standAnswer RX1 ("standAnswer", []) 3 none q.1 q.2 := by
  unfold jcX1_standAnswer
  exact List.forall_mem_cons.mpr ⟨k_ild_n (show decode cX1_standAnswer 0 = .ok (.iload_n 2, 1) by decide +kernel) rfl, List.forall_mem_cons.mpr ⟨k_tsw (show decode cX1_standAnswer 1 = .ok (.tableswitch 61 0 2 #[27, 37, 47], 27) by decide +kernel) (by decide) (by decide) (by decide), List.forall_mem_cons.mpr ⟨k_ald_n (show decode cX1_standAnswer 28 = .ok (.aload_n 0, 1) by decide +kernel) rfl, List.forall_mem_cons.mpr ⟨k_getf (C := RX1) (T := TX1) (N := 10) (show decode cX1_standAnswer 29 = .ok (.getfield 11, 3) by decide +kernel) rfl inX1 (by decide) (gw1 169 rfl rfl) (by decide), List.forall_mem_cons.mpr ⟨k_ild_n (show decode cX1_standAnswer 32 = .ok (.iload_n 1, 1) by decide +kernel) rfl, List.forall_mem_cons.mpr ⟨k_aald (show decode cX1_standAnswer 33 = .ok (.aaload, 1) by decide +kernel) (by decide) rfl, List.forall_mem_cons.mpr ⟨k_getf (C := RX3) (T := TX3) (N := 3) (show decode cX1_standAnswer 34 = .ok (.getfield 50, 3) by decide +kernel) rfl inX3 (by decide) (gw1 62 rfl rfl) (by decide), List.forall_mem_cons.mpr ⟨k_iret (show decode cX1_standAnswer 37 = .ok (.ireturn, 1) by decide +kernel), List.forall_mem_cons.mpr ⟨k_ald_n (show decode cX1_standAnswer 38 = .ok (.aload_n 0, 1) by decide +kernel) rfl, List.forall_mem_cons.mpr ⟨k_getf (C := RX1) (T := TX1) (N := 10) (show decode cX1_standAnswer 39 = .ok (.getfield 11, 3) by decide +kernel) rfl inX1 (by decide) (gw1 169 rfl rfl) (by decide), List.forall_mem_cons.mpr ⟨k_ild_n (show decode cX1_standAnswer 42 = .ok (.iload_n 1, 1) by decide +kernel) rfl, List.forall_mem_cons.mpr ⟨k_aald (show decode cX1_standAnswer 43 = .ok (.aaload, 1) by decide +kernel) (by decide) rfl, List.forall_mem_cons.mpr ⟨k_getf (C := RX3) (T := TX3) (N := 3) (show decode cX1_standAnswer 44 = .ok (.getfield 153, 3) by decide +kernel) rfl inX3 (by decide) (gw1 66 rfl rfl) (by decide), List.forall_mem_cons.mpr ⟨k_iret (show decode cX1_standAnswer 47 = .ok (.ireturn, 1) by decide +kernel), List.forall_mem_cons.mpr ⟨k_ald_n (show decode cX1_standAnswer 48 = .ok (.aload_n 0, 1) by decide +kernel) rfl, List.forall_mem_cons.mpr ⟨k_ild_n (show decode cX1_standAnswer 49 = .ok (.iload_n 1, 1) by decide +kernel) rfl, List.forall_mem_cons.mpr ⟨k_inv (M := mX1_isPushedFrom) (T := TX1) (N := 10) rfl rfl (show decode cX1_standAnswer 50 = .ok (.invokevirtual 196, 3) by decide +kernel) rfl (by decide) (by decide +kernel) (by decide) (gw2 196 rfl rfl) (gw2 193 rfl rfl) (gw2 195 rfl rfl) (gs1 11 rfl) (gw1 2 rfl rfl) (fun _ h => absurd h List.not_mem_nil), List.forall_mem_cons.mpr ⟨k_if_eq (show decode cX1_standAnswer 53 = .ok (.ifCond .eq 7, 3) by decide +kernel) (by decide), List.forall_mem_cons.mpr ⟨k_iconst (show decode cX1_standAnswer 56 = .ok (.iconst 1, 1) by decide +kernel) (by decide +kernel), List.forall_mem_cons.mpr ⟨k_goto (show decode cX1_standAnswer 57 = .ok (.goto 4, 3) by decide +kernel) (by decide), List.forall_mem_cons.mpr ⟨k_iconst (show decode cX1_standAnswer 60 = .ok (.iconst 0, 1) by decide +kernel) (by decide +kernel), List.forall_mem_cons.mpr ⟨k_iret (show decode cX1_standAnswer 61 = .ok (.ireturn, 1) by decide +kernel), List.forall_mem_cons.mpr ⟨k_ald_n (show decode cX1_standAnswer 62 = .ok (.aload_n 0, 1) by decide +kernel) rfl, List.forall_mem_cons.mpr ⟨k_getf (C := RX1) (T := TX1) (N := 10) (show decode cX1_standAnswer 63 = .ok (.getfield 11, 3) by decide +kernel) rfl inX1 (by decide) (gw1 169 rfl rfl) (by decide), List.forall_mem_cons.mpr ⟨k_ild_n (show decode cX1_standAnswer 66 = .ok (.iload_n 1, 1) by decide +kernel) rfl, List.forall_mem_cons.mpr ⟨k_aald (show decode cX1_standAnswer 67 = .ok (.aaload, 1) by decide +kernel) (by decide) rfl, List.forall_mem_cons.mpr ⟨k_getf (C := RX3) (T := TX3) (N := 3) (show decode cX1_standAnswer 68 = .ok (.getfield 192, 3) by decide +kernel) rfl inX3 (by decide) (gw1 69 rfl rfl) (by decide), List.forall_mem_cons.mpr ⟨k_iret (show decode cX1_standAnswer 71 = .ok (.ireturn, 1) by decide +kernel), fun _ h => absurd h List.not_mem_nil⟩⟩⟩⟩⟩⟩⟩⟩⟩⟩⟩⟩⟩⟩⟩⟩⟩⟩⟩⟩⟩⟩⟩⟩⟩⟩⟩⟩
set_option maxRecDepth 20000 in
theorem okX1_answer : ∀ q ∈ jcX1_answer, JOk mtab cX1_answer RX1 ("answer", []) 2 none q.1 q.2 := by
  unfold jcX1_answer
  exact List.forall_mem_cons.mpr ⟨k_ild_n (show decode cX1_answer 0 = .ok (.iload_n 1, 1) by decide +kernel) rfl, List.forall_mem_cons.mpr ⟨k_tsw (show decode cX1_answer 1 = .ok (.tableswitch 132 0 15 #[79, 84, 89, 94, 99, 104, 132, 132, 132, 132, 132, 132, 109, 114, 119, 124], 79) by decide +kernel) (by decide) (by decide) (by decide), List.forall_mem_cons.mpr ⟨k_ald_n (show decode cX1_answer 80 = .ok (.aload_n 0, 1) by decide +kernel) rfl, List.forall_mem_cons.mpr ⟨k_getf (C := RX1) (T := TX1) (N := 10) (show decode cX1_answer 81 = .ok (.getfield 43, 3) by decide +kernel) rfl inX1 (by decide) (gw1 176 rfl rfl) (by decide), List.forall_mem_cons.mpr ⟨k_iret (show decode cX1_answer 84 = .ok (.ireturn, 1) by decide +kernel), List.forall_mem_cons.mpr ⟨k_ald_n (show decode cX1_answer 85 = .ok (.aload_n 0, 1) by decide +kernel) rfl, List.forall_mem_cons.mpr ⟨k_getf (C := RX1) (T := TX1) (N := 10) (show decode cX1_answer 86 = .ok (.getfield 47, 3) by decide +kernel) rfl inX1 (by decide) (gw1 178 rfl rfl) (by decide), List.forall_mem_cons.mpr ⟨k_iret (show decode cX1_answer 89 = .ok (.ireturn, 1) by decide +kernel), List.forall_mem_cons.mpr ⟨k_ald_n (show decode cX1_answer 90 = .ok (.aload_n 0, 1) by decide +kernel) rfl, List.forall_mem_cons.mpr ⟨k_getf (C := RX1) (T := TX1) (N := 10) (show decode cX1_answer 91 = .ok (.getfield 61, 3) by decide +kernel) rfl inX1 (by decide) (gw1 179 rfl rfl) (by decide), List.forall_mem_cons.mpr ⟨k_iret (show decode cX1_answer 94 = .ok (.ireturn, 1) by decide +kernel), List.forall_mem_cons.mpr ⟨k_ald_n (show decode cX1_answer 95 = .ok (.aload_n 0, 1) by decide +kernel) rfl, List.forall_mem_cons.mpr ⟨k_getf (C := RX1) (T := TX1) (N := 10) (show decode cX1_answer 96 = .ok (.getfield 64, 3) by decide +kernel) rfl inX1 (by decide) (gw1 182 rfl rfl) (by decide), List.forall_mem_cons.mpr ⟨k_iret (show decode cX1_answer 99 = .ok (.ireturn, 1) by decide +kernel), List.forall_mem_cons.mpr ⟨k_ald_n (show decode cX1_answer 100 = .ok (.aload_n 0, 1) by decide +kernel) rfl, List.forall_mem_cons.mpr ⟨k_getf (C := RX1) (T := TX1) (N := 10) (show decode cX1_answer 101 = .ok (.getfield 70, 3) by decide +kernel) rfl inX1 (by decide) (gw1 183 rfl rfl) (by decide), List.forall_mem_cons.mpr ⟨k_iret (show decode cX1_answer 104 = .ok (.ireturn, 1) by decide +kernel), List.forall_mem_cons.mpr ⟨k_ald_n (show decode cX1_answer 105 = .ok (.aload_n 0, 1) by decide +kernel) rfl, List.forall_mem_cons.mpr ⟨k_getf (C := RX1) (T := TX1) (N := 10) (show decode cX1_answer 106 = .ok (.getfield 73, 3) by decide +kernel) rfl inX1 (by decide) (gw1 185 rfl rfl) (by decide), List.forall_mem_cons.mpr ⟨k_iret (show decode cX1_answer 109 = .ok (.ireturn, 1) by decide +kernel), List.forall_mem_cons.mpr ⟨k_ald_n (show decode cX1_answer 110 = .ok (.aload_n 0, 1) by decide +kernel) rfl, List.forall_mem_cons.mpr ⟨k_inv (M := mX1_sumOfDelays) (T := TX1) (N := 10) rfl rfl (show decode cX1_answer 111 = .ok (.invokevirtual 212, 3) by decide +kernel) rfl (by decide) (by decide +kernel) (by decide) (gw2 239 rfl rfl) (gw2 236 rfl rfl) (gw2 237 rfl rfl) (gw2 238 rfl rfl) (gw1 2 rfl rfl) (fun _ h => absurd h List.not_mem_nil), List.forall_mem_cons.mpr ⟨k_iret (show decode cX1_answer 114 = .ok (.ireturn, 1) by decide +kernel), List.forall_mem_cons.mpr ⟨k_ald_n (show decode cX1_answer 115 = .ok (.aload_n 0, 1) by decide +kernel) rfl, List.forall_mem_cons.mpr ⟨k_inv (M := mX1_greatestDelay) (T := TX1) (N := 10) rfl rfl (show decode cX1_answer 116 = .ok (.invokevirtual 215, 3) by decide +kernel) rfl (by decide) (by decide +kernel) (by decide) (gw3 3 rfl rfl) (gw3 0 rfl rfl) (gw3 2 rfl rfl) (gs2 1 rfl) (gw1 2 rfl rfl) (fun _ h => absurd h List.not_mem_nil), List.forall_mem_cons.mpr ⟨k_iret (show decode cX1_answer 119 = .ok (.ireturn, 1) by decide +kernel), List.forall_mem_cons.mpr ⟨k_ald_n (show decode cX1_answer 120 = .ok (.aload_n 0, 1) by decide +kernel) rfl, List.forall_mem_cons.mpr ⟨k_inv (M := mX1_sumOfBuses) (T := TX1) (N := 10) rfl rfl (show decode cX1_answer 121 = .ok (.invokevirtual 218, 3) by decide +kernel) rfl (by decide) (by decide +kernel) (by decide) (gw3 7 rfl rfl) (gw3 4 rfl rfl) (gw3 5 rfl rfl) (gw3 6 rfl rfl) (gw1 2 rfl rfl) (fun _ h => absurd h List.not_mem_nil), List.forall_mem_cons.mpr ⟨k_iret (show decode cX1_answer 124 = .ok (.ireturn, 1) by decide +kernel), List.forall_mem_cons.mpr ⟨k_ald_n (show decode cX1_answer 125 = .ok (.aload_n 0, 1) by decide +kernel) rfl, List.forall_mem_cons.mpr ⟨k_getf (C := RX1) (T := TX1) (N := 10) (show decode cX1_answer 126 = .ok (.getfield 32, 3) by decide +kernel) rfl inX1 (by decide) (gw1 175 rfl rfl) (by decide), List.forall_mem_cons.mpr ⟨k_inv (M := mX2_kept) (T := TX2) (N := 4) rfl rfl (show decode cX1_answer 129 = .ok (.invokevirtual 221, 3) by decide +kernel) rfl (by decide) (by decide +kernel) (by decide) (gw3 11 rfl rfl) (gw3 8 rfl rfl) (gw3 9 rfl rfl) (gw3 10 rfl rfl) (gw1 3 rfl rfl) (fun _ h => absurd h List.not_mem_nil), List.forall_mem_cons.mpr ⟨k_iret (show decode cX1_answer 132 = .ok (.ireturn, 1) by decide +kernel), List.forall_mem_cons.mpr ⟨k_ald_n (show decode cX1_answer 133 = .ok (.aload_n 0, 1) by decide +kernel) rfl, List.forall_mem_cons.mpr ⟨k_ild_n (show decode cX1_answer 134 = .ok (.iload_n 1, 1) by decide +kernel) rfl, List.forall_mem_cons.mpr ⟨k_bipush (show decode cX1_answer 135 = .ok (.bipush 6, 2) by decide +kernel) (by decide +kernel), List.forall_mem_cons.mpr ⟨k_isub (show decode cX1_answer 137 = .ok (.isub, 1) by decide +kernel), List.forall_mem_cons.mpr ⟨k_inv (M := mX1_countAt) (T := TX1) (N := 10) rfl rfl (show decode cX1_answer 138 = .ok (.invokevirtual 206, 3) by decide +kernel) rfl (by decide) (by decide +kernel) (by decide) (gw2 140 rfl rfl) (gw3 13 rfl rfl) (gw2 138 rfl rfl) (gw2 139 rfl rfl) (gw1 2 rfl rfl) (fun _ h => absurd h List.not_mem_nil), List.forall_mem_cons.mpr ⟨k_iret (show decode cX1_answer 141 = .ok (.ireturn, 1) by decide +kernel), fun _ h => absurd h List.not_mem_nil⟩⟩⟩⟩⟩⟩⟩⟩⟩⟩⟩⟩⟩⟩⟩⟩⟩⟩⟩⟩⟩⟩⟩⟩⟩⟩⟩⟩⟩⟩⟩⟩⟩⟩⟩⟩⟩⟩⟩
end
section
/-! each action of a table is sound -/
set_option maxRecDepth 20000 in
theorem okX2_init : ∀ q ∈ jcX2_init, JOk mtab cX2_init RX2 ("<init>", []) 1 none q.1 q.2 := by
  unfold jcX2_init
  exact List.forall_mem_cons.mpr ⟨k_ald_n (show decode cX2_init 0 = .ok (.aload_n 0, 1) by decide +kernel) rfl, List.forall_mem_cons.mpr ⟨k_oini (show decode cX2_init 1 = .ok (.invokespecial 3, 3) by decide +kernel) (gw1 41 rfl rfl) (gw1 22 rfl rfl) (gw1 23 (by decide +kernel) rfl), List.forall_mem_cons.mpr ⟨k_ald_n (show decode cX2_init 4 = .ok (.aload_n 0, 1) by decide +kernel) rfl, List.forall_mem_cons.mpr ⟨k_bipush (show decode cX2_init 5 = .ok (.bipush 30, 2) by decide +kernel) (by decide +kernel), List.forall_mem_cons.mpr ⟨k_newi (ty := .int) (show decode cX2_init 7 = .ok (.newarray .int, 2) by decide +kernel) rfl (by decide) rfl (gw1 56 rfl rfl) (by decide) rfl (fun _ _ h => h), List.forall_mem_cons.mpr ⟨k_putrF (C := RX2) (Cv := "") (T := TX2) (N := 4) (show decode cX2_init 9 = .ok (.putfield 9, 3) by decide +kernel) rfl inX2 tyX2_ok nmX2 (by decide) rfl rfl rfl rfl (fun _ => ⟨rfl, rfl⟩) (gw1 42 rfl rfl) (by decide), List.forall_mem_cons.mpr ⟨k_ald_n (show decode cX2_init 12 = .ok (.aload_n 0, 1) by decide +kernel) rfl, List.forall_mem_cons.mpr ⟨k_bipush (show decode cX2_init 13 = .ok (.bipush 30, 2) by decide +kernel) (by decide +kernel), List.forall_mem_cons.mpr ⟨k_newi (ty := .int) (show decode cX2_init 15 = .ok (.newarray .int, 2) by decide +kernel) rfl (by decide) rfl (gw1 56 rfl rfl) (by decide) rfl (fun _ _ h => h), List.forall_mem_cons.mpr ⟨k_putrF (C := RX2) (Cv := "") (T := TX2) (N := 4) (show decode cX2_init 17 = .ok (.putfield 15, 3) by decide +kernel) rfl inX2 tyX2_ok nmX2 (by decide) rfl rfl rfl rfl (fun _ => ⟨rfl, rfl⟩) (gw1 43 rfl rfl) (by decide), List.forall_mem_cons.mpr ⟨k_ald_n (show decode cX2_init 20 = .ok (.aload_n 0, 1) by decide +kernel) rfl, List.forall_mem_cons.mpr ⟨k_bipush (show decode cX2_init 21 = .ok (.bipush 30, 2) by decide +kernel) (by decide +kernel), List.forall_mem_cons.mpr ⟨k_newi (ty := .int) (show decode cX2_init 23 = .ok (.newarray .int, 2) by decide +kernel) rfl (by decide) rfl (gw1 56 rfl rfl) (by decide) rfl (fun _ _ h => h), List.forall_mem_cons.mpr ⟨k_putrF (C := RX2) (Cv := "") (T := TX2) (N := 4) (show decode cX2_init 25 = .ok (.putfield 18, 3) by decide +kernel) rfl inX2 tyX2_ok nmX2 (by decide) rfl rfl rfl rfl (fun _ => ⟨rfl, rfl⟩) (gw1 44 rfl rfl) (by decide), List.forall_mem_cons.mpr ⟨k_vret (show decode cX2_init 28 = .ok (.return_, 1) by decide +kernel), fun _ h => absurd h List.not_mem_nil⟩⟩⟩⟩⟩⟩⟩⟩⟩⟩⟩⟩⟩⟩⟩
set_option maxRecDepth 20000 in
theorem okX2_put : ∀ q ∈ jcX2_put, JOk mtab cX2_put RX2 ("put", []) 5 none q.1 q.2 := by
  unfold jcX2_put
  exact List.forall_mem_cons.mpr ⟨k_ald_n (show decode cX2_put 0 = .ok (.aload_n 0, 1) by decide +kernel) rfl, List.forall_mem_cons.mpr ⟨k_getf (C := RX2) (T := TX2) (N := 4) (show decode cX2_put 1 = .ok (.getfield 21, 3) by decide +kernel) rfl inX2 (by decide) (gw1 45 rfl rfl) (by decide), List.forall_mem_cons.mpr ⟨k_bipush (show decode cX2_put 4 = .ok (.bipush 30, 2) by decide +kernel) (by decide +kernel), List.forall_mem_cons.mpr ⟨k_irem (show decode cX2_put 6 = .ok (.irem, 1) by decide +kernel), List.forall_mem_cons.mpr ⟨k_ist (show decode cX2_put 7 = .ok (.istore 4, 2) by decide +kernel) (by decide), List.forall_mem_cons.mpr ⟨k_ald_n (show decode cX2_put 9 = .ok (.aload_n 0, 1) by decide +kernel) rfl, List.forall_mem_cons.mpr ⟨k_getf (C := RX2) (T := TX2) (N := 4) (show decode cX2_put 10 = .ok (.getfield 9, 3) by decide +kernel) rfl inX2 (by decide) (gw1 42 rfl rfl) (by decide), List.forall_mem_cons.mpr ⟨k_ild (show decode cX2_put 13 = .ok (.iload 4, 2) by decide +kernel), List.forall_mem_cons.mpr ⟨k_ild_n (show decode cX2_put 15 = .ok (.iload_n 1, 1) by decide +kernel) rfl, List.forall_mem_cons.mpr ⟨k_iast (show decode cX2_put 16 = .ok (.iastore, 1) by decide +kernel), List.forall_mem_cons.mpr ⟨k_ald_n (show decode cX2_put 17 = .ok (.aload_n 0, 1) by decide +kernel) rfl, List.forall_mem_cons.mpr ⟨k_getf (C := RX2) (T := TX2) (N := 4) (show decode cX2_put 18 = .ok (.getfield 15, 3) by decide +kernel) rfl inX2 (by decide) (gw1 43 rfl rfl) (by decide), List.forall_mem_cons.mpr ⟨k_ild (show decode cX2_put 21 = .ok (.iload 4, 2) by decide +kernel), List.forall_mem_cons.mpr ⟨k_ild_n (show decode cX2_put 23 = .ok (.iload_n 2, 1) by decide +kernel) rfl, List.forall_mem_cons.mpr ⟨k_iast (show decode cX2_put 24 = .ok (.iastore, 1) by decide +kernel), List.forall_mem_cons.mpr ⟨k_ald_n (show decode cX2_put 25 = .ok (.aload_n 0, 1) by decide +kernel) rfl, List.forall_mem_cons.mpr ⟨k_getf (C := RX2) (T := TX2) (N := 4) (show decode cX2_put 26 = .ok (.getfield 18, 3) by decide +kernel) rfl inX2 (by decide) (gw1 44 rfl rfl) (by decide), List.forall_mem_cons.mpr ⟨k_ild (show decode cX2_put 29 = .ok (.iload 4, 2) by decide +kernel), List.forall_mem_cons.mpr ⟨k_ild_n (show decode cX2_put 31 = .ok (.iload_n 3, 1) by decide +kernel) rfl, List.forall_mem_cons.mpr ⟨k_iast (show decode cX2_put 32 = .ok (.iastore, 1) by decide +kernel), List.forall_mem_cons.mpr ⟨k_ald_n (show decode cX2_put 33 = .ok (.aload_n 0, 1) by decide +kernel) rfl, List.forall_mem_cons.mpr ⟨k_dup (show decode cX2_put 34 = .ok (.dup, 1) by decide +kernel), List.forall_mem_cons.mpr ⟨k_getf (C := RX2) (T := TX2) (N := 4) (show decode cX2_put 35 = .ok (.getfield 21, 3) by decide +kernel) rfl inX2 (by decide) (gw1 45 rfl rfl) (by decide), List.forall_mem_cons.mpr ⟨k_iconst (show decode cX2_put 38 = .ok (.iconst 1, 1) by decide +kernel) (by decide +kernel), List.forall_mem_cons.mpr ⟨k_iadd (show decode cX2_put 39 = .ok (.iadd, 1) by decide +kernel), List.forall_mem_cons.mpr ⟨k_puti (C := RX2) (T := TX2) (N := 4) (show decode cX2_put 40 = .ok (.putfield 21, 3) by decide +kernel) rfl inX2 tyX2_ok nmX2 (by decide) rfl rfl (gw1 45 rfl rfl) (by decide), List.forall_mem_cons.mpr ⟨k_vret (show decode cX2_put 43 = .ok (.return_, 1) by decide +kernel), fun _ h => absurd h List.not_mem_nil⟩⟩⟩⟩⟩⟩⟩⟩⟩⟩⟩⟩⟩⟩⟩⟩⟩⟩⟩⟩⟩⟩⟩⟩⟩⟩⟩
set_option maxRecDepth 20000 in
theorem okX2_kept : ∀ q ∈ jcX2_kept, JOk mtab cX2_kept RX2 ("kept", []) 1 none q.1 q.2 := by
  unfold jcX2_kept
  exact List.forall_mem_cons.mpr ⟨k_ald_n (show decode cX2_kept 0 = .ok (.aload_n 0, 1) by decide +kernel) rfl, List.forall_mem_cons.mpr ⟨k_getf (C := RX2) (T := TX2) (N := 4) (show decode cX2_kept 1 = .ok (.getfield 21, 3) by decide +kernel) rfl inX2 (by decide) (gw1 45 rfl rfl) (by decide), List.forall_mem_cons.mpr ⟨k_bipush (show decode cX2_kept 4 = .ok (.bipush 30, 2) by decide +kernel) (by decide +kernel), List.forall_mem_cons.mpr ⟨k_mmin (show decode cX2_kept 6 = .ok (.invokestatic 25, 3) by decide +kernel) (gw3 12 rfl rfl) (gw2 218 rfl rfl) (gw1 14 rfl rfl) (gw2 219 (by decide +kernel) rfl), List.forall_mem_cons.mpr ⟨k_iret (show decode cX2_kept 9 = .ok (.ireturn, 1) by decide +kernel), fun _ h => absurd h List.not_mem_nil⟩⟩⟩⟩⟩
set_option maxRecDepth 20000 in
theorem okX2_copyFrom : ∀ q ∈ jcX2_copyFrom, JOk mtab cX2_copyFrom RX2 ("copyFrom", []) 2 none q.1 q.2 := by
  unfold jcX2_copyFrom
  exact List.forall_mem_cons.mpr ⟨k_ald_n (show decode cX2_copyFrom 0 = .ok (.aload_n 1, 1) by decide +kernel) rfl, List.forall_mem_cons.mpr ⟨k_getf (C := RX2) (T := TX2) (N := 4) (show decode cX2_copyFrom 1 = .ok (.getfield 9, 3) by decide +kernel) rfl inX2 (by decide) (gw1 42 rfl rfl) (by decide), List.forall_mem_cons.mpr ⟨k_iconst (show decode cX2_copyFrom 4 = .ok (.iconst 0, 1) by decide +kernel) (by decide +kernel), List.forall_mem_cons.mpr ⟨k_ald_n (show decode cX2_copyFrom 5 = .ok (.aload_n 0, 1) by decide +kernel) rfl, List.forall_mem_cons.mpr ⟨k_getf (C := RX2) (T := TX2) (N := 4) (show decode cX2_copyFrom 6 = .ok (.getfield 9, 3) by decide +kernel) rfl inX2 (by decide) (gw1 42 rfl rfl) (by decide), List.forall_mem_cons.mpr ⟨k_iconst (show decode cX2_copyFrom 9 = .ok (.iconst 0, 1) by decide +kernel) (by decide +kernel), List.forall_mem_cons.mpr ⟨k_bipush (show decode cX2_copyFrom 10 = .ok (.bipush 30, 2) by decide +kernel) (by decide +kernel), List.forall_mem_cons.mpr ⟨k_copy (show decode cX2_copyFrom 12 = .ok (.invokestatic 31, 3) by decide +kernel) (gw2 134 rfl rfl) (gw2 136 rfl rfl) (gw2 135 rfl rfl) (gw1 12 rfl rfl), List.forall_mem_cons.mpr ⟨k_ald_n (show decode cX2_copyFrom 15 = .ok (.aload_n 1, 1) by decide +kernel) rfl, List.forall_mem_cons.mpr ⟨k_getf (C := RX2) (T := TX2) (N := 4) (show decode cX2_copyFrom 16 = .ok (.getfield 15, 3) by decide +kernel) rfl inX2 (by decide) (gw1 43 rfl rfl) (by decide), List.forall_mem_cons.mpr ⟨k_iconst (show decode cX2_copyFrom 19 = .ok (.iconst 0, 1) by decide +kernel) (by decide +kernel), List.forall_mem_cons.mpr ⟨k_ald_n (show decode cX2_copyFrom 20 = .ok (.aload_n 0, 1) by decide +kernel) rfl, List.forall_mem_cons.mpr ⟨k_getf (C := RX2) (T := TX2) (N := 4) (show decode cX2_copyFrom 21 = .ok (.getfield 15, 3) by decide +kernel) rfl inX2 (by decide) (gw1 43 rfl rfl) (by decide), List.forall_mem_cons.mpr ⟨k_iconst (show decode cX2_copyFrom 24 = .ok (.iconst 0, 1) by decide +kernel) (by decide +kernel), List.forall_mem_cons.mpr ⟨k_bipush (show decode cX2_copyFrom 25 = .ok (.bipush 30, 2) by decide +kernel) (by decide +kernel), List.forall_mem_cons.mpr ⟨k_copy (show decode cX2_copyFrom 27 = .ok (.invokestatic 31, 3) by decide +kernel) (gw2 134 rfl rfl) (gw2 136 rfl rfl) (gw2 135 rfl rfl) (gw1 12 rfl rfl), List.forall_mem_cons.mpr ⟨k_ald_n (show decode cX2_copyFrom 30 = .ok (.aload_n 1, 1) by decide +kernel) rfl, List.forall_mem_cons.mpr ⟨k_getf (C := RX2) (T := TX2) (N := 4) (show decode cX2_copyFrom 31 = .ok (.getfield 18, 3) by decide +kernel) rfl inX2 (by decide) (gw1 44 rfl rfl) (by decide), List.forall_mem_cons.mpr ⟨k_iconst (show decode cX2_copyFrom 34 = .ok (.iconst 0, 1) by decide +kernel) (by decide +kernel), List.forall_mem_cons.mpr ⟨k_ald_n (show decode cX2_copyFrom 35 = .ok (.aload_n 0, 1) by decide +kernel) rfl, List.forall_mem_cons.mpr ⟨k_getf (C := RX2) (T := TX2) (N := 4) (show decode cX2_copyFrom 36 = .ok (.getfield 18, 3) by decide +kernel) rfl inX2 (by decide) (gw1 44 rfl rfl) (by decide), List.forall_mem_cons.mpr ⟨k_iconst (show decode cX2_copyFrom 39 = .ok (.iconst 0, 1) by decide +kernel) (by decide +kernel), List.forall_mem_cons.mpr ⟨k_bipush (show decode cX2_copyFrom 40 = .ok (.bipush 30, 2) by decide +kernel) (by decide +kernel), List.forall_mem_cons.mpr ⟨k_copy (show decode cX2_copyFrom 42 = .ok (.invokestatic 31, 3) by decide +kernel) (gw2 134 rfl rfl) (gw2 136 rfl rfl) (gw2 135 rfl rfl) (gw1 12 rfl rfl), List.forall_mem_cons.mpr ⟨k_ald_n (show decode cX2_copyFrom 45 = .ok (.aload_n 0, 1) by decide +kernel) rfl, List.forall_mem_cons.mpr ⟨k_ald_n (show decode cX2_copyFrom 46 = .ok (.aload_n 1, 1) by decide +kernel) rfl, List.forall_mem_cons.mpr ⟨k_getf (C := RX2) (T := TX2) (N := 4) (show decode cX2_copyFrom 47 = .ok (.getfield 21, 3) by decide +kernel) rfl inX2 (by decide) (gw1 45 rfl rfl) (by decide), List.forall_mem_cons.mpr ⟨k_puti (C := RX2) (T := TX2) (N := 4) (show decode cX2_copyFrom 50 = .ok (.putfield 21, 3) by decide +kernel) rfl inX2 tyX2_ok nmX2 (by decide) rfl rfl (gw1 45 rfl rfl) (by decide), List.forall_mem_cons.mpr ⟨k_vret (show decode cX2_copyFrom 53 = .ok (.return_, 1) by decide +kernel), fun _ h => absurd h List.not_mem_nil⟩⟩⟩⟩⟩⟩⟩⟩⟩⟩⟩⟩⟩⟩⟩⟩⟩⟩⟩⟩⟩⟩⟩⟩⟩⟩⟩⟩⟩
end
section
/-! each action of a table is sound -/
set_option maxRecDepth 20000 in
theorem okX3_init : ∀ q ∈ jcX3_init, JOk mtab cX3_init RX3 ("<init>", []) 1 none q.1 q.2 := by
  unfold jcX3_init
  exact List.forall_mem_cons.mpr ⟨k_ald_n (show decode cX3_init 0 = .ok (.aload_n 0, 1) by decide +kernel) rfl, List.forall_mem_cons.mpr ⟨k_oini (show decode cX3_init 1 = .ok (.invokespecial 3, 3) by decide +kernel) (gw1 61 rfl rfl) (gw1 22 rfl rfl) (gw1 23 (by decide +kernel) rfl), List.forall_mem_cons.mpr ⟨k_vret (show decode cX3_init 4 = .ok (.return_, 1) by decide +kernel), fun _ h => absurd h List.not_mem_nil⟩⟩⟩
set_option maxRecDepth 20000 in
theorem okX3_restart : ∀ q ∈ jcX3_restart, JOk mtab cX3_restart RX3 ("restart", []) 1 none q.1 q.2 := by
  unfold jcX3_restart
  exact List.forall_mem_cons.mpr ⟨k_ald_n (show decode cX3_restart 0 = .ok (.aload_n 0, 1) by decide +kernel) rfl, List.forall_mem_cons.mpr ⟨k_iconst (show decode cX3_restart 1 = .ok (.iconst (-1), 1) by decide +kernel) (by decide +kernel), List.forall_mem_cons.mpr ⟨k_puti (C := RX3) (T := TX3) (N := 3) (show decode cX3_restart 2 = .ok (.putfield 9, 3) by decide +kernel) rfl inX3 tyX3_ok nmX3 (by decide) rfl rfl (gw1 65 rfl rfl) (by decide), List.forall_mem_cons.mpr ⟨k_ald_n (show decode cX3_restart 5 = .ok (.aload_n 0, 1) by decide +kernel) rfl, List.forall_mem_cons.mpr ⟨k_iconst (show decode cX3_restart 6 = .ok (.iconst 0, 1) by decide +kernel) (by decide +kernel), List.forall_mem_cons.mpr ⟨k_puti (C := RX3) (T := TX3) (N := 3) (show decode cX3_restart 7 = .ok (.putfield 15, 3) by decide +kernel) rfl inX3 tyX3_ok nmX3 (by decide) rfl rfl (gw1 67 rfl rfl) (by decide), List.forall_mem_cons.mpr ⟨k_vret (show decode cX3_restart 10 = .ok (.return_, 1) by decide +kernel), fun _ h => absurd h List.not_mem_nil⟩⟩⟩⟩⟩⟩⟩
set_option maxRecDepth 20000 in
theorem okX3_copyFrom : ∀ q ∈ jcX3_copyFrom, JOk mtab cX3_copyFrom RX3 ("copyFrom", []) 2 none q.1 q.2 := by
  unfold jcX3_copyFrom
  exact List.forall_mem_cons.mpr ⟨k_ald_n (show decode cX3_copyFrom 0 = .ok (.aload_n 0, 1) by decide +kernel) rfl, List.forall_mem_cons.mpr ⟨k_ald_n (show decode cX3_copyFrom 1 = .ok (.aload_n 1, 1) by decide +kernel) rfl, List.forall_mem_cons.mpr ⟨k_getf (C := RX3) (T := TX3) (N := 3) (show decode cX3_copyFrom 2 = .ok (.getfield 18, 3) by decide +kernel) rfl inX3 (by decide) (gw1 63 rfl rfl) (by decide), List.forall_mem_cons.mpr ⟨k_puti (C := RX3) (T := TX3) (N := 3) (show decode cX3_copyFrom 5 = .ok (.putfield 18, 3) by decide +kernel) rfl inX3 tyX3_ok nmX3 (by decide) rfl rfl (gw1 63 rfl rfl) (by decide), List.forall_mem_cons.mpr ⟨k_ald_n (show decode cX3_copyFrom 8 = .ok (.aload_n 0, 1) by decide +kernel) rfl, List.forall_mem_cons.mpr ⟨k_ald_n (show decode cX3_copyFrom 9 = .ok (.aload_n 1, 1) by decide +kernel) rfl, List.forall_mem_cons.mpr ⟨k_getf (C := RX3) (T := TX3) (N := 3) (show decode cX3_copyFrom 10 = .ok (.getfield 9, 3) by decide +kernel) rfl inX3 (by decide) (gw1 65 rfl rfl) (by decide), List.forall_mem_cons.mpr ⟨k_puti (C := RX3) (T := TX3) (N := 3) (show decode cX3_copyFrom 13 = .ok (.putfield 9, 3) by decide +kernel) rfl inX3 tyX3_ok nmX3 (by decide) rfl rfl (gw1 65 rfl rfl) (by decide), List.forall_mem_cons.mpr ⟨k_ald_n (show decode cX3_copyFrom 16 = .ok (.aload_n 0, 1) by decide +kernel) rfl, List.forall_mem_cons.mpr ⟨k_ald_n (show decode cX3_copyFrom 17 = .ok (.aload_n 1, 1) by decide +kernel) rfl, List.forall_mem_cons.mpr ⟨k_getf (C := RX3) (T := TX3) (N := 3) (show decode cX3_copyFrom 18 = .ok (.getfield 15, 3) by decide +kernel) rfl inX3 (by decide) (gw1 67 rfl rfl) (by decide), List.forall_mem_cons.mpr ⟨k_puti (C := RX3) (T := TX3) (N := 3) (show decode cX3_copyFrom 21 = .ok (.putfield 15, 3) by decide +kernel) rfl inX3 tyX3_ok nmX3 (by decide) rfl rfl (gw1 67 rfl rfl) (by decide), List.forall_mem_cons.mpr ⟨k_vret (show decode cX3_copyFrom 24 = .ok (.return_, 1) by decide +kernel), fun _ h => absurd h List.not_mem_nil⟩⟩⟩⟩⟩⟩⟩⟩⟩⟩⟩⟩⟩
end
section
/-! each action of a table is sound -/
set_option maxRecDepth 20000 in
theorem okX4_init : ∀ q ∈ jcX4_init, JOk mtab cX4_init RX4 ("<init>", []) 1 none q.1 q.2 := by
  unfold jcX4_init
  exact List.forall_mem_cons.mpr ⟨k_ald_n (show decode cX4_init 0 = .ok (.aload_n 0, 1) by decide +kernel) rfl, List.forall_mem_cons.mpr ⟨k_oini (show decode cX4_init 1 = .ok (.invokespecial 3, 3) by decide +kernel) (gw1 214 rfl rfl) (gw1 22 rfl rfl) (gw1 23 (by decide +kernel) rfl), List.forall_mem_cons.mpr ⟨k_ald_n (show decode cX4_init 4 = .ok (.aload_n 0, 1) by decide +kernel) rfl, List.forall_mem_cons.mpr ⟨k_bipush (show decode cX4_init 5 = .ok (.bipush 90, 2) by decide +kernel) (by decide +kernel), List.forall_mem_cons.mpr ⟨k_newi (ty := .int) (show decode cX4_init 7 = .ok (.newarray .int, 2) by decide +kernel) rfl (by decide) rfl (gw1 56 rfl rfl) (by decide) rfl (fun _ _ h => h), List.forall_mem_cons.mpr ⟨k_putrF (C := RX4) (Cv := "") (T := TX4) (N := 9) (show decode cX4_init 9 = .ok (.putfield 9, 3) by decide +kernel) rfl inX4 tyX4_ok nmX4 (by decide) rfl rfl rfl rfl (fun _ => ⟨rfl, rfl⟩) (gw1 215 rfl rfl) (by decide), List.forall_mem_cons.mpr ⟨k_ald_n (show decode cX4_init 12 = .ok (.aload_n 0, 1) by decide +kernel) rfl, List.forall_mem_cons.mpr ⟨k_bipush (show decode cX4_init 13 = .ok (.bipush 12, 2) by decide +kernel) (by decide +kernel), List.forall_mem_cons.mpr ⟨k_newi (ty := .int) (show decode cX4_init 15 = .ok (.newarray .int, 2) by decide +kernel) rfl (by decide) rfl (gw1 56 rfl rfl) (by decide) rfl (fun _ _ h => h), List.forall_mem_cons.mpr ⟨k_putrF (C := RX4) (Cv := "") (T := TX4) (N := 9) (show decode cX4_init 17 = .ok (.putfield 15, 3) by decide +kernel) rfl inX4 tyX4_ok nmX4 (by decide) rfl rfl rfl rfl (fun _ => ⟨rfl, rfl⟩) (gw1 216 rfl rfl) (by decide), List.forall_mem_cons.mpr ⟨k_ald_n (show decode cX4_init 20 = .ok (.aload_n 0, 1) by decide +kernel) rfl, List.forall_mem_cons.mpr ⟨k_bipush (show decode cX4_init 21 = .ok (.bipush 12, 2) by decide +kernel) (by decide +kernel), List.forall_mem_cons.mpr ⟨k_newi (ty := .int) (show decode cX4_init 23 = .ok (.newarray .int, 2) by decide +kernel) rfl (by decide) rfl (gw1 56 rfl rfl) (by decide) rfl (fun _ _ h => h), List.forall_mem_cons.mpr ⟨k_putrF (C := RX4) (Cv := "") (T := TX4) (N := 9) (show decode cX4_init 25 = .ok (.putfield 18, 3) by decide +kernel) rfl inX4 tyX4_ok nmX4 (by decide) rfl rfl rfl rfl (fun _ => ⟨rfl, rfl⟩) (gw1 217 rfl rfl) (by decide), List.forall_mem_cons.mpr ⟨k_ald_n (show decode cX4_init 28 = .ok (.aload_n 0, 1) by decide +kernel) rfl, List.forall_mem_cons.mpr ⟨k_bipush (show decode cX4_init 29 = .ok (.bipush 12, 2) by decide +kernel) (by decide +kernel), List.forall_mem_cons.mpr ⟨k_newi (ty := .int) (show decode cX4_init 31 = .ok (.newarray .int, 2) by decide +kernel) rfl (by decide) rfl (gw1 56 rfl rfl) (by decide) rfl (fun _ _ h => h), List.forall_mem_cons.mpr ⟨k_putrF (C := RX4) (Cv := "") (T := TX4) (N := 9) (show decode cX4_init 33 = .ok (.putfield 21, 3) by decide +kernel) rfl inX4 tyX4_ok nmX4 (by decide) rfl rfl rfl rfl (fun _ => ⟨rfl, rfl⟩) (gw1 218 rfl rfl) (by decide), List.forall_mem_cons.mpr ⟨k_ald_n (show decode cX4_init 36 = .ok (.aload_n 0, 1) by decide +kernel) rfl, List.forall_mem_cons.mpr ⟨k_bipush (show decode cX4_init 37 = .ok (.bipush 12, 2) by decide +kernel) (by decide +kernel), List.forall_mem_cons.mpr ⟨k_newi (ty := .int) (show decode cX4_init 39 = .ok (.newarray .int, 2) by decide +kernel) rfl (by decide) rfl (gw1 56 rfl rfl) (by decide) rfl (fun _ _ h => h), List.forall_mem_cons.mpr ⟨k_putrF (C := RX4) (Cv := "") (T := TX4) (N := 9) (show decode cX4_init 41 = .ok (.putfield 24, 3) by decide +kernel) rfl inX4 tyX4_ok nmX4 (by decide) rfl rfl rfl rfl (fun _ => ⟨rfl, rfl⟩) (gw1 219 rfl rfl) (by decide), List.forall_mem_cons.mpr ⟨k_vret (show decode cX4_init 44 = .ok (.return_, 1) by decide +kernel), fun _ h => absurd h List.not_mem_nil⟩⟩⟩⟩⟩⟩⟩⟩⟩⟩⟩⟩⟩⟩⟩⟩⟩⟩⟩⟩⟩⟩⟩
end
section
/-! each action of a table is sound -/
set_option maxRecDepth 20000 in
theorem okX5_init : ∀ q ∈ jcX5_init, JOk mtab cX5_init RX5 ("<init>", []) 1 none q.1 q.2 := by
  unfold jcX5_init
  exact List.forall_mem_cons.mpr ⟨k_ald_n (show decode cX5_init 0 = .ok (.aload_n 0, 1) by decide +kernel) rfl, List.forall_mem_cons.mpr ⟨k_oini (show decode cX5_init 1 = .ok (.invokespecial 3, 3) by decide +kernel) (gw1 81 rfl rfl) (gw1 22 rfl rfl) (gw1 23 (by decide +kernel) rfl), List.forall_mem_cons.mpr ⟨k_vret (show decode cX5_init 4 = .ok (.return_, 1) by decide +kernel), fun _ h => absurd h List.not_mem_nil⟩⟩⟩
set_option maxRecDepth 20000 in
theorem okX5_restart : ∀ q ∈ jcX5_restart, JOk mtab cX5_restart RX5 ("restart", []) 1 none q.1 q.2 := by
  unfold jcX5_restart
  exact List.forall_mem_cons.mpr ⟨k_ald_n (show decode cX5_restart 0 = .ok (.aload_n 0, 1) by decide +kernel) rfl, List.forall_mem_cons.mpr ⟨k_iconst (show decode cX5_restart 1 = .ok (.iconst (-1), 1) by decide +kernel) (by decide +kernel), List.forall_mem_cons.mpr ⟨k_puti (C := RX5) (T := TX5) (N := 5) (show decode cX5_restart 2 = .ok (.putfield 9, 3) by decide +kernel) rfl inX5 tyX5_ok nmX5 (by decide) rfl rfl (gw1 85 rfl rfl) (by decide), List.forall_mem_cons.mpr ⟨k_ald_n (show decode cX5_restart 5 = .ok (.aload_n 0, 1) by decide +kernel) rfl, List.forall_mem_cons.mpr ⟨k_iconst (show decode cX5_restart 6 = .ok (.iconst 0, 1) by decide +kernel) (by decide +kernel), List.forall_mem_cons.mpr ⟨k_puti (C := RX5) (T := TX5) (N := 5) (show decode cX5_restart 7 = .ok (.putfield 15, 3) by decide +kernel) rfl inX5 tyX5_ok nmX5 (by decide) rfl rfl (gw1 87 rfl rfl) (by decide), List.forall_mem_cons.mpr ⟨k_ald_n (show decode cX5_restart 10 = .ok (.aload_n 0, 1) by decide +kernel) rfl, List.forall_mem_cons.mpr ⟨k_iconst (show decode cX5_restart 11 = .ok (.iconst 0, 1) by decide +kernel) (by decide +kernel), List.forall_mem_cons.mpr ⟨k_puti (C := RX5) (T := TX5) (N := 5) (show decode cX5_restart 12 = .ok (.putfield 18, 3) by decide +kernel) rfl inX5 tyX5_ok nmX5 (by decide) rfl rfl (gw1 89 rfl rfl) (by decide), List.forall_mem_cons.mpr ⟨k_ald_n (show decode cX5_restart 15 = .ok (.aload_n 0, 1) by decide +kernel) rfl, List.forall_mem_cons.mpr ⟨k_iconst (show decode cX5_restart 16 = .ok (.iconst 0, 1) by decide +kernel) (by decide +kernel), List.forall_mem_cons.mpr ⟨k_puti (C := RX5) (T := TX5) (N := 5) (show decode cX5_restart 17 = .ok (.putfield 21, 3) by decide +kernel) rfl inX5 tyX5_ok nmX5 (by decide) rfl rfl (gw1 91 rfl rfl) (by decide), List.forall_mem_cons.mpr ⟨k_vret (show decode cX5_restart 20 = .ok (.return_, 1) by decide +kernel), fun _ h => absurd h List.not_mem_nil⟩⟩⟩⟩⟩⟩⟩⟩⟩⟩⟩⟩⟩
set_option maxRecDepth 20000 in
theorem okX5_copyFrom : ∀ q ∈ jcX5_copyFrom, JOk mtab cX5_copyFrom RX5 ("copyFrom", []) 2 none q.1 q.2 := by
  unfold jcX5_copyFrom
  exact List.forall_mem_cons.mpr ⟨k_ald_n (show decode cX5_copyFrom 0 = .ok (.aload_n 0, 1) by decide +kernel) rfl, List.forall_mem_cons.mpr ⟨k_ald_n (show decode cX5_copyFrom 1 = .ok (.aload_n 1, 1) by decide +kernel) rfl, List.forall_mem_cons.mpr ⟨k_getf (C := RX5) (T := TX5) (N := 5) (show decode cX5_copyFrom 2 = .ok (.getfield 24, 3) by decide +kernel) rfl inX5 (by decide) (gw1 83 rfl rfl) (by decide), List.forall_mem_cons.mpr ⟨k_puti (C := RX5) (T := TX5) (N := 5) (show decode cX5_copyFrom 5 = .ok (.putfield 24, 3) by decide +kernel) rfl inX5 tyX5_ok nmX5 (by decide) rfl rfl (gw1 83 rfl rfl) (by decide), List.forall_mem_cons.mpr ⟨k_ald_n (show decode cX5_copyFrom 8 = .ok (.aload_n 0, 1) by decide +kernel) rfl, List.forall_mem_cons.mpr ⟨k_ald_n (show decode cX5_copyFrom 9 = .ok (.aload_n 1, 1) by decide +kernel) rfl, List.forall_mem_cons.mpr ⟨k_getf (C := RX5) (T := TX5) (N := 5) (show decode cX5_copyFrom 10 = .ok (.getfield 9, 3) by decide +kernel) rfl inX5 (by decide) (gw1 85 rfl rfl) (by decide), List.forall_mem_cons.mpr ⟨k_puti (C := RX5) (T := TX5) (N := 5) (show decode cX5_copyFrom 13 = .ok (.putfield 9, 3) by decide +kernel) rfl inX5 tyX5_ok nmX5 (by decide) rfl rfl (gw1 85 rfl rfl) (by decide), List.forall_mem_cons.mpr ⟨k_ald_n (show decode cX5_copyFrom 16 = .ok (.aload_n 0, 1) by decide +kernel) rfl, List.forall_mem_cons.mpr ⟨k_ald_n (show decode cX5_copyFrom 17 = .ok (.aload_n 1, 1) by decide +kernel) rfl, List.forall_mem_cons.mpr ⟨k_getf (C := RX5) (T := TX5) (N := 5) (show decode cX5_copyFrom 18 = .ok (.getfield 15, 3) by decide +kernel) rfl inX5 (by decide) (gw1 87 rfl rfl) (by decide), List.forall_mem_cons.mpr ⟨k_puti (C := RX5) (T := TX5) (N := 5) (show decode cX5_copyFrom 21 = .ok (.putfield 15, 3) by decide +kernel) rfl inX5 tyX5_ok nmX5 (by decide) rfl rfl (gw1 87 rfl rfl) (by decide), List.forall_mem_cons.mpr ⟨k_ald_n (show decode cX5_copyFrom 24 = .ok (.aload_n 0, 1) by decide +kernel) rfl, List.forall_mem_cons.mpr ⟨k_ald_n (show decode cX5_copyFrom 25 = .ok (.aload_n 1, 1) by decide +kernel) rfl, List.forall_mem_cons.mpr ⟨k_getf (C := RX5) (T := TX5) (N := 5) (show decode cX5_copyFrom 26 = .ok (.getfield 18, 3) by decide +kernel) rfl inX5 (by decide) (gw1 89 rfl rfl) (by decide), List.forall_mem_cons.mpr ⟨k_puti (C := RX5) (T := TX5) (N := 5) (show decode cX5_copyFrom 29 = .ok (.putfield 18, 3) by decide +kernel) rfl inX5 tyX5_ok nmX5 (by decide) rfl rfl (gw1 89 rfl rfl) (by decide), List.forall_mem_cons.mpr ⟨k_ald_n (show decode cX5_copyFrom 32 = .ok (.aload_n 0, 1) by decide +kernel) rfl, List.forall_mem_cons.mpr ⟨k_ald_n (show decode cX5_copyFrom 33 = .ok (.aload_n 1, 1) by decide +kernel) rfl, List.forall_mem_cons.mpr ⟨k_getf (C := RX5) (T := TX5) (N := 5) (show decode cX5_copyFrom 34 = .ok (.getfield 21, 3) by decide +kernel) rfl inX5 (by decide) (gw1 91 rfl rfl) (by decide), List.forall_mem_cons.mpr ⟨k_puti (C := RX5) (T := TX5) (N := 5) (show decode cX5_copyFrom 37 = .ok (.putfield 21, 3) by decide +kernel) rfl inX5 tyX5_ok nmX5 (by decide) rfl rfl (gw1 91 rfl rfl) (by decide), List.forall_mem_cons.mpr ⟨k_vret (show decode cX5_copyFrom 40 = .ok (.return_, 1) by decide +kernel), fun _ h => absurd h List.not_mem_nil⟩⟩⟩⟩⟩⟩⟩⟩⟩⟩⟩⟩⟩⟩⟩⟩⟩⟩⟩⟩⟩
set_option maxRecDepth 20000 in
theorem okX5_take : ∀ q ∈ jcX5_take, JOk mtab cX5_take RX5 ("take", []) 3 none q.1 q.2 := by
  unfold jcX5_take
  exact List.forall_mem_cons.mpr ⟨k_ald_n (show decode cX5_take 0 = .ok (.aload_n 0, 1) by decide +kernel) rfl, List.forall_mem_cons.mpr ⟨k_ild_n (show decode cX5_take 1 = .ok (.iload_n 1, 1) by decide +kernel) rfl, List.forall_mem_cons.mpr ⟨k_puti (C := RX5) (T := TX5) (N := 5) (show decode cX5_take 2 = .ok (.putfield 9, 3) by decide +kernel) rfl inX5 tyX5_ok nmX5 (by decide) rfl rfl (gw1 85 rfl rfl) (by decide), List.forall_mem_cons.mpr ⟨k_ald_n (show decode cX5_take 5 = .ok (.aload_n 0, 1) by decide +kernel) rfl, List.forall_mem_cons.mpr ⟨k_ild_n (show decode cX5_take 6 = .ok (.iload_n 2, 1) by decide +kernel) rfl, List.forall_mem_cons.mpr ⟨k_puti (C := RX5) (T := TX5) (N := 5) (show decode cX5_take 7 = .ok (.putfield 15, 3) by decide +kernel) rfl inX5 tyX5_ok nmX5 (by decide) rfl rfl (gw1 87 rfl rfl) (by decide), List.forall_mem_cons.mpr ⟨k_vret (show decode cX5_take 10 = .ok (.return_, 1) by decide +kernel), fun _ h => absurd h List.not_mem_nil⟩⟩⟩⟩⟩⟩⟩
set_option maxRecDepth 20000 in
theorem okX5_answer : ∀ q ∈ jcX5_answer, JOk mtab cX5_answer RX5 ("answer", []) 2 none q.1 q.2 := by
  unfold jcX5_answer
  exact List.forall_mem_cons.mpr ⟨k_ild_n (show decode cX5_answer 0 = .ok (.iload_n 1, 1) by decide +kernel) rfl, List.forall_mem_cons.mpr ⟨k_tsw (show decode cX5_answer 1 = .ok (.tableswitch 51 0 3 #[31, 36, 41, 46], 31) by decide +kernel) (by decide) (by decide) (by decide), List.forall_mem_cons.mpr ⟨k_ald_n (show decode cX5_answer 32 = .ok (.aload_n 0, 1) by decide +kernel) rfl, List.forall_mem_cons.mpr ⟨k_getf (C := RX5) (T := TX5) (N := 5) (show decode cX5_answer 33 = .ok (.getfield 24, 3) by decide +kernel) rfl inX5 (by decide) (gw1 83 rfl rfl) (by decide), List.forall_mem_cons.mpr ⟨k_iret (show decode cX5_answer 36 = .ok (.ireturn, 1) by decide +kernel), List.forall_mem_cons.mpr ⟨k_ald_n (show decode cX5_answer 37 = .ok (.aload_n 0, 1) by decide +kernel) rfl, List.forall_mem_cons.mpr ⟨k_getf (C := RX5) (T := TX5) (N := 5) (show decode cX5_answer 38 = .ok (.getfield 9, 3) by decide +kernel) rfl inX5 (by decide) (gw1 85 rfl rfl) (by decide), List.forall_mem_cons.mpr ⟨k_iret (show decode cX5_answer 41 = .ok (.ireturn, 1) by decide +kernel), List.forall_mem_cons.mpr ⟨k_ald_n (show decode cX5_answer 42 = .ok (.aload_n 0, 1) by decide +kernel) rfl, List.forall_mem_cons.mpr ⟨k_getf (C := RX5) (T := TX5) (N := 5) (show decode cX5_answer 43 = .ok (.getfield 15, 3) by decide +kernel) rfl inX5 (by decide) (gw1 87 rfl rfl) (by decide), List.forall_mem_cons.mpr ⟨k_iret (show decode cX5_answer 46 = .ok (.ireturn, 1) by decide +kernel), List.forall_mem_cons.mpr ⟨k_ald_n (show decode cX5_answer 47 = .ok (.aload_n 0, 1) by decide +kernel) rfl, List.forall_mem_cons.mpr ⟨k_getf (C := RX5) (T := TX5) (N := 5) (show decode cX5_answer 48 = .ok (.getfield 18, 3) by decide +kernel) rfl inX5 (by decide) (gw1 89 rfl rfl) (by decide), List.forall_mem_cons.mpr ⟨k_iret (show decode cX5_answer 51 = .ok (.ireturn, 1) by decide +kernel), List.forall_mem_cons.mpr ⟨k_ald_n (show decode cX5_answer 52 = .ok (.aload_n 0, 1) by decide +kernel) rfl, List.forall_mem_cons.mpr ⟨k_getf (C := RX5) (T := TX5) (N := 5) (show decode cX5_answer 53 = .ok (.getfield 21, 3) by decide +kernel) rfl inX5 (by decide) (gw1 91 rfl rfl) (by decide), List.forall_mem_cons.mpr ⟨k_iret (show decode cX5_answer 56 = .ok (.ireturn, 1) by decide +kernel), fun _ h => absurd h List.not_mem_nil⟩⟩⟩⟩⟩⟩⟩⟩⟩⟩⟩⟩⟩⟩⟩⟩⟩
end
section
/-! each action of a table is sound -/
set_option maxRecDepth 20000 in
theorem okX6_init : ∀ q ∈ jcX6_init, JOk mtab cX6_init RX6 ("<init>", []) 2 none q.1 q.2 := by
  unfold jcX6_init
  exact List.forall_mem_cons.mpr ⟨k_ald_n (show decode cX6_init 0 = .ok (.aload_n 0, 1) by decide +kernel) rfl, List.forall_mem_cons.mpr ⟨k_oini (show decode cX6_init 1 = .ok (.invokespecial 1, 3) by decide +kernel) (gw1 21 rfl rfl) (gw1 22 rfl rfl) (gw1 23 (by decide +kernel) rfl), List.forall_mem_cons.mpr ⟨k_ald_n (show decode cX6_init 4 = .ok (.aload_n 0, 1) by decide +kernel) rfl, List.forall_mem_cons.mpr ⟨k_new (C := RX1) (T := TX1) (show decode cX6_init 5 = .ok (.new 7, 3) by decide +kernel) rfl inX1 tyX1_ok (by decide +kernel) (fun _ => rfl) (fun n => List.forall_mem_cons.mpr ⟨trivial, List.forall_mem_cons.mpr ⟨trivial, List.forall_mem_cons.mpr ⟨trivial, List.forall_mem_cons.mpr ⟨trivial, List.forall_mem_cons.mpr ⟨trivial, List.forall_mem_cons.mpr ⟨trivial, List.forall_mem_cons.mpr ⟨trivial, List.forall_mem_cons.mpr ⟨trivial, List.forall_mem_cons.mpr ⟨trivial, List.forall_mem_cons.mpr ⟨trivial, fun _ h => absurd h List.not_mem_nil⟩⟩⟩⟩⟩⟩⟩⟩⟩⟩) (gw1 24 rfl rfl) (gw1 25 rfl rfl) (gw1 2 rfl rfl), List.forall_mem_cons.mpr ⟨k_dup (show decode cX6_init 8 = .ok (.dup, 1) by decide +kernel), List.forall_mem_cons.mpr ⟨k_ini (M := mX1_init) rfl rfl rfl rfl (show decode cX6_init 9 = .ok (.invokespecial 9, 3) by decide +kernel) (by decide +kernel) (by decide) (gw1 28 rfl rfl) (gw1 26 rfl rfl) (gw1 27 rfl rfl) (gw1 2 rfl rfl), List.forall_mem_cons.mpr ⟨k_putrF (C := RX6) (Cv := "") (T := TX6) (N := 5) (show decode cX6_init 12 = .ok (.putfield 10, 3) by decide +kernel) rfl inX6 tyX6_ok nmX6 (by decide) rfl rfl rfl rfl (fun _ => ⟨rfl, rfl⟩) (gw1 239 rfl rfl) (by decide), List.forall_mem_cons.mpr ⟨k_ald_n (show decode cX6_init 15 = .ok (.aload_n 0, 1) by decide +kernel) rfl, List.forall_mem_cons.mpr ⟨k_new (C := RX1) (T := TX1) (show decode cX6_init 16 = .ok (.new 7, 3) by decide +kernel) rfl inX1 tyX1_ok (by decide +kernel) (fun _ => rfl) (fun n => List.forall_mem_cons.mpr ⟨trivial, List.forall_mem_cons.mpr ⟨trivial, List.forall_mem_cons.mpr ⟨trivial, List.forall_mem_cons.mpr ⟨trivial, List.forall_mem_cons.mpr ⟨trivial, List.forall_mem_cons.mpr ⟨trivial, List.forall_mem_cons.mpr ⟨trivial, List.forall_mem_cons.mpr ⟨trivial, List.forall_mem_cons.mpr ⟨trivial, List.forall_mem_cons.mpr ⟨trivial, fun _ h => absurd h List.not_mem_nil⟩⟩⟩⟩⟩⟩⟩⟩⟩⟩) (gw1 24 rfl rfl) (gw1 25 rfl rfl) (gw1 2 rfl rfl), List.forall_mem_cons.mpr ⟨k_dup (show decode cX6_init 19 = .ok (.dup, 1) by decide +kernel), List.forall_mem_cons.mpr ⟨k_ini (M := mX1_init) rfl rfl rfl rfl (show decode cX6_init 20 = .ok (.invokespecial 9, 3) by decide +kernel) (by decide +kernel) (by decide) (gw1 28 rfl rfl) (gw1 26 rfl rfl) (gw1 27 rfl rfl) (gw1 2 rfl rfl), List.forall_mem_cons.mpr ⟨k_putrF (C := RX6) (Cv := "") (T := TX6) (N := 5) (show decode cX6_init 23 = .ok (.putfield 16, 3) by decide +kernel) rfl inX6 tyX6_ok nmX6 (by decide) rfl rfl rfl rfl (fun _ => ⟨rfl, rfl⟩) (gw2 0 rfl rfl) (by decide), List.forall_mem_cons.mpr ⟨k_ald_n (show decode cX6_init 26 = .ok (.aload_n 0, 1) by decide +kernel) rfl, List.forall_mem_cons.mpr ⟨k_iconst (show decode cX6_init 27 = .ok (.iconst 4, 1) by decide +kernel) (by decide +kernel), List.forall_mem_cons.mpr ⟨k_newq (show decode cX6_init 28 = .ok (.anewarray 7, 3) by decide +kernel) (by decide) rfl (by decide +kernel) (gw1 24 rfl rfl), List.forall_mem_cons.mpr ⟨k_putrF (C := RX6) (Cv := "") (T := TX6) (N := 5) (show decode cX6_init 31 = .ok (.putfield 19, 3) by decide +kernel) rfl inX6 tyX6_ok nmX6 (by decide) rfl rfl rfl rfl (fun _ => ⟨rfl, rfl⟩) (gw2 1 rfl rfl) (by decide), List.forall_mem_cons.mpr ⟨k_iconst (show decode cX6_init 34 = .ok (.iconst 0, 1) by decide +kernel) (by decide +kernel), List.forall_mem_cons.mpr ⟨k_ist_n (show decode cX6_init 35 = .ok (.istore_n 1, 1) by decide +kernel) rfl (by decide), List.forall_mem_cons.mpr ⟨k_ild_n (show decode cX6_init 36 = .ok (.iload_n 1, 1) by decide +kernel) rfl, List.forall_mem_cons.mpr ⟨k_iconst (show decode cX6_init 37 = .ok (.iconst 4, 1) by decide +kernel) (by decide +kernel), List.forall_mem_cons.mpr ⟨k_icmp_ge (show decode cX6_init 38 = .ok (.if_icmp .ge 22, 3) by decide +kernel) (by decide), List.forall_mem_cons.mpr ⟨k_ald_n (show decode cX6_init 41 = .ok (.aload_n 0, 1) by decide +kernel) rfl, List.forall_mem_cons.mpr ⟨k_getf (C := RX6) (T := TX6) (N := 5) (show decode cX6_init 42 = .ok (.getfield 19, 3) by decide +kernel) rfl inX6 (by decide) (gw2 1 rfl rfl) (by decide), List.forall_mem_cons.mpr ⟨k_ild_n (show decode cX6_init 45 = .ok (.iload_n 1, 1) by decide +kernel) rfl, List.forall_mem_cons.mpr ⟨k_new (C := RX1) (T := TX1) (show decode cX6_init 46 = .ok (.new 7, 3) by decide +kernel) rfl inX1 tyX1_ok (by decide +kernel) (fun _ => rfl) (fun n => List.forall_mem_cons.mpr ⟨trivial, List.forall_mem_cons.mpr ⟨trivial, List.forall_mem_cons.mpr ⟨trivial, List.forall_mem_cons.mpr ⟨trivial, List.forall_mem_cons.mpr ⟨trivial, List.forall_mem_cons.mpr ⟨trivial, List.forall_mem_cons.mpr ⟨trivial, List.forall_mem_cons.mpr ⟨trivial, List.forall_mem_cons.mpr ⟨trivial, List.forall_mem_cons.mpr ⟨trivial, fun _ h => absurd h List.not_mem_nil⟩⟩⟩⟩⟩⟩⟩⟩⟩⟩) (gw1 24 rfl rfl) (gw1 25 rfl rfl) (gw1 2 rfl rfl), List.forall_mem_cons.mpr ⟨k_dup (show decode cX6_init 49 = .ok (.dup, 1) by decide +kernel), List.forall_mem_cons.mpr ⟨k_ini (M := mX1_init) rfl rfl rfl rfl (show decode cX6_init 50 = .ok (.invokespecial 9, 3) by decide +kernel) (by decide +kernel) (by decide) (gw1 28 rfl rfl) (gw1 26 rfl rfl) (gw1 27 rfl rfl) (gw1 2 rfl rfl), List.forall_mem_cons.mpr ⟨k_aast (show decode cX6_init 53 = .ok (.aastore, 1) by decide +kernel) (by decide) rfl rfl (by decide), List.forall_mem_cons.mpr ⟨k_iinc (show decode cX6_init 54 = .ok (.iinc 1 1, 3) by decide +kernel) (by decide +kernel) (by decide), List.forall_mem_cons.mpr ⟨k_goto (show decode cX6_init 57 = .ok (.goto (-21), 3) by decide +kernel) (by decide), List.forall_mem_cons.mpr ⟨k_ald_n (show decode cX6_init 60 = .ok (.aload_n 0, 1) by decide +kernel) rfl, List.forall_mem_cons.mpr ⟨k_iconst (show decode cX6_init 61 = .ok (.iconst 0, 1) by decide +kernel) (by decide +kernel), List.forall_mem_cons.mpr ⟨k_puti (C := RX6) (T := TX6) (N := 5) (show decode cX6_init 62 = .ok (.putfield 23, 3) by decide +kernel) rfl inX6 tyX6_ok nmX6 (by decide) rfl rfl (gw2 2 rfl rfl) (by decide), List.forall_mem_cons.mpr ⟨k_ald_n (show decode cX6_init 65 = .ok (.aload_n 0, 1) by decide +kernel) rfl, List.forall_mem_cons.mpr ⟨k_new (C := RX4) (T := TX4) (show decode cX6_init 66 = .ok (.new 27, 3) by decide +kernel) rfl inX4 tyX4_ok (by decide +kernel) (fun _ => rfl) (fun n => List.forall_mem_cons.mpr ⟨trivial, List.forall_mem_cons.mpr ⟨trivial, List.forall_mem_cons.mpr ⟨trivial, List.forall_mem_cons.mpr ⟨trivial, List.forall_mem_cons.mpr ⟨trivial, List.forall_mem_cons.mpr ⟨trivial, List.forall_mem_cons.mpr ⟨trivial, List.forall_mem_cons.mpr ⟨trivial, List.forall_mem_cons.mpr ⟨trivial, fun _ h => absurd h List.not_mem_nil⟩⟩⟩⟩⟩⟩⟩⟩⟩) (gw1 209 rfl rfl) (gw1 210 rfl rfl) (gw1 7 rfl rfl), List.forall_mem_cons.mpr ⟨k_dup (show decode cX6_init 69 = .ok (.dup, 1) by decide +kernel), List.forall_mem_cons.mpr ⟨k_iniN (M := mX4_init) (host := "StandTugs") rfl rfl rfl rfl (show decode cX6_init 70 = .ok (.invokespecial 29, 3) by decide +kernel) (by decide +kernel) (by decide) (gw1 213 rfl rfl) (by decide +kernel) (gw1 212 rfl rfl) (gw1 7 rfl rfl), List.forall_mem_cons.mpr ⟨k_putrF (C := RX6) (Cv := "") (T := TX6) (N := 5) (show decode cX6_init 73 = .ok (.putfield 30, 3) by decide +kernel) rfl inX6 tyX6_ok nmX6 (by decide) rfl rfl rfl rfl (fun _ => ⟨rfl, rfl⟩) (gw2 3 rfl rfl) (by decide), List.forall_mem_cons.mpr ⟨k_vret (show decode cX6_init 76 = .ok (.return_, 1) by decide +kernel), fun _ h => absurd h List.not_mem_nil⟩⟩⟩⟩⟩⟩⟩⟩⟩⟩⟩⟩⟩⟩⟩⟩⟩⟩⟩⟩⟩⟩⟩⟩⟩⟩⟩⟩⟩⟩⟩⟩⟩⟩⟩⟩⟩⟩⟩
set_option maxRecDepth 20000 in
theorem okX6_begin : ∀ q ∈ jcX6_begin, JOk mtab cX6_begin RX6 ("begin", []) 4 none q.1 q.2 := by
  unfold jcX6_begin
  exact List.forall_mem_cons.mpr ⟨k_ild_n (show decode cX6_begin 0 = .ok (.iload_n 1, 1) by decide +kernel) rfl, List.forall_mem_cons.mpr ⟨k_iconst (show decode cX6_begin 1 = .ok (.iconst 1, 1) by decide +kernel) (by decide +kernel), List.forall_mem_cons.mpr ⟨k_bipush (show decode cX6_begin 2 = .ok (.bipush 6, 2) by decide +kernel) (by decide +kernel), List.forall_mem_cons.mpr ⟨k_ins (M := mX6_isOutside) rfl rfl (show decode cX6_begin 4 = .ok (.invokestatic 34, 3) by decide +kernel) (by decide +kernel) (by decide) (gw2 21 rfl rfl) (gw2 19 rfl rfl) (gw2 20 rfl rfl) (gw1 1 rfl rfl), List.forall_mem_cons.mpr ⟨k_if_ne (show decode cX6_begin 7 = .ok (.ifCond .ne 12, 3) by decide +kernel) (by decide), List.forall_mem_cons.mpr ⟨k_ild_n (show decode cX6_begin 10 = .ok (.iload_n 2, 1) by decide +kernel) rfl, List.forall_mem_cons.mpr ⟨k_iconst (show decode cX6_begin 11 = .ok (.iconst 1, 1) by decide +kernel) (by decide +kernel), List.forall_mem_cons.mpr ⟨k_iconst (show decode cX6_begin 12 = .ok (.iconst 3, 1) by decide +kernel) (by decide +kernel), List.forall_mem_cons.mpr ⟨k_ins (M := mX6_isOutside) rfl rfl (show decode cX6_begin 13 = .ok (.invokestatic 34, 3) by decide +kernel) (by decide +kernel) (by decide) (gw2 21 rfl rfl) (gw2 19 rfl rfl) (gw2 20 rfl rfl) (gw1 1 rfl rfl), List.forall_mem_cons.mpr ⟨k_if_eq (show decode cX6_begin 16 = .ok (.ifCond .eq 13, 3) by decide +kernel) (by decide), List.forall_mem_cons.mpr ⟨k_thr (text := "stands or tugs out of range") (by decide +kernel) (gw2 22 rfl rfl) (gw1 11 rfl rfl) (by decide +kernel) th_w42 (show decode cX6_begin 19 = .ok (.new 38, 3) by decide +kernel) (show decode cX6_begin 22 = .ok (.dup, 1) by decide +kernel) (show decode cX6_begin 23 = .ok (.ldc 40, 2) by decide +kernel) (show decode cX6_begin 25 = .ok (.invokespecial 42, 3) by decide +kernel) (show decode cX6_begin 28 = .ok (.athrow, 1) by decide +kernel), List.forall_mem_cons.mpr ⟨k_ald_n (show decode cX6_begin 29 = .ok (.aload_n 0, 1) by decide +kernel) rfl, List.forall_mem_cons.mpr ⟨k_getf (C := RX6) (T := TX6) (N := 5) (show decode cX6_begin 30 = .ok (.getfield 10, 3) by decide +kernel) rfl inX6 (by decide) (gw1 239 rfl rfl) (by decide), List.forall_mem_cons.mpr ⟨k_getf (C := RX1) (T := TX1) (N := 10) (show decode cX6_begin 33 = .ok (.getfield 45, 3) by decide +kernel) rfl inX1 (by decide) (gw1 181 rfl rfl) (by decide), List.forall_mem_cons.mpr ⟨k_ist_n (show decode cX6_begin 36 = .ok (.istore_n 3, 1) by decide +kernel) rfl (by decide), List.forall_mem_cons.mpr ⟨k_ald_n (show decode cX6_begin 37 = .ok (.aload_n 0, 1) by decide +kernel) rfl, List.forall_mem_cons.mpr ⟨k_inv (M := mX6_save) (T := TX6) (N := 5) rfl rfl (show decode cX6_begin 38 = .ok (.invokevirtual 48, 3) by decide +kernel) rfl (by decide) (by decide +kernel) (by decide) (gw2 109 rfl rfl) (gw2 106 rfl rfl) (gw2 108 rfl rfl) (gs1 1 rfl) (gw1 1 rfl rfl) (fun _ h => absurd h List.not_mem_nil), List.forall_mem_cons.mpr ⟨k_ald_n (show decode cX6_begin 41 = .ok (.aload_n 0, 1) by decide +kernel) rfl, List.forall_mem_cons.mpr ⟨k_getf (C := RX6) (T := TX6) (N := 5) (show decode cX6_begin 42 = .ok (.getfield 10, 3) by decide +kernel) rfl inX6 (by decide) (gw1 239 rfl rfl) (by decide), List.forall_mem_cons.mpr ⟨k_ild_n (show decode cX6_begin 45 = .ok (.iload_n 1, 1) by decide +kernel) rfl, List.forall_mem_cons.mpr ⟨k_ild_n (show decode cX6_begin 46 = .ok (.iload_n 2, 1) by decide +kernel) rfl, List.forall_mem_cons.mpr ⟨k_inv (M := mX1_build) (T := TX1) (N := 10) rfl rfl (show decode cX6_begin 47 = .ok (.invokevirtual 51, 3) by decide +kernel) rfl (by decide) (by decide +kernel) (by decide) (gw1 156 rfl rfl) (gw3 44 rfl rfl) (gw1 154 rfl rfl) (gw1 155 rfl rfl) (gw1 2 rfl rfl) (fun _ h => absurd h List.not_mem_nil), List.forall_mem_cons.mpr ⟨k_ild_n (show decode cX6_begin 50 = .ok (.iload_n 3, 1) by decide +kernel) rfl, List.forall_mem_cons.mpr ⟨k_iret (show decode cX6_begin 51 = .ok (.ireturn, 1) by decide +kernel), fun _ h => absurd h List.not_mem_nil⟩⟩⟩⟩⟩⟩⟩⟩⟩⟩⟩⟩⟩⟩⟩⟩⟩⟩⟩⟩⟩⟩⟩⟩
set_option maxRecDepth 20000 in
theorem okX6_setSpan : ∀ q ∈ jcX6_setSpan, JOk mtab cX6_setSpan RX6 ("setSpan", []) 4 none q.1 q.2 := by
  unfold jcX6_setSpan
  exact List.forall_mem_cons.mpr ⟨k_ald_n (show decode cX6_setSpan 0 = .ok (.aload_n 0, 1) by decide +kernel) rfl, List.forall_mem_cons.mpr ⟨k_getf (C := RX6) (T := TX6) (N := 5) (show decode cX6_setSpan 1 = .ok (.getfield 10, 3) by decide +kernel) rfl inX6 (by decide) (gw1 239 rfl rfl) (by decide), List.forall_mem_cons.mpr ⟨k_ild_n (show decode cX6_setSpan 4 = .ok (.iload_n 1, 1) by decide +kernel) rfl, List.forall_mem_cons.mpr ⟨k_inv (M := mX1_hasStand) (T := TX1) (N := 10) rfl rfl (show decode cX6_setSpan 5 = .ok (.invokevirtual 55, 3) by decide +kernel) rfl (by decide) (by decide +kernel) (by decide) (gw3 56 rfl rfl) (gw3 53 rfl rfl) (gw3 54 rfl rfl) (gw3 55 rfl rfl) (gw1 2 rfl rfl) (fun _ h => absurd h List.not_mem_nil), List.forall_mem_cons.mpr ⟨k_if_ne (show decode cX6_setSpan 8 = .ok (.ifCond .ne 13, 3) by decide +kernel) (by decide), List.forall_mem_cons.mpr ⟨k_thr (text := "no such stand") (by decide +kernel) (gw3 57 rfl rfl) (gw1 13 rfl rfl) (by decide +kernel) th_w63 (show decode cX6_setSpan 11 = .ok (.new 59, 3) by decide +kernel) (show decode cX6_setSpan 14 = .ok (.dup, 1) by decide +kernel) (show decode cX6_setSpan 15 = .ok (.ldc 61, 2) by decide +kernel) (show decode cX6_setSpan 17 = .ok (.invokespecial 63, 3) by decide +kernel) (show decode cX6_setSpan 20 = .ok (.athrow, 1) by decide +kernel), List.forall_mem_cons.mpr ⟨k_ild_n (show decode cX6_setSpan 21 = .ok (.iload_n 2, 1) by decide +kernel) rfl, List.forall_mem_cons.mpr ⟨k_iconst (show decode cX6_setSpan 22 = .ok (.iconst 1, 1) by decide +kernel) (by decide +kernel), List.forall_mem_cons.mpr ⟨k_iconst (show decode cX6_setSpan 23 = .ok (.iconst 4, 1) by decide +kernel) (by decide +kernel), List.forall_mem_cons.mpr ⟨k_ins (M := mX6_isOutside) rfl rfl (show decode cX6_setSpan 24 = .ok (.invokestatic 34, 3) by decide +kernel) (by decide +kernel) (by decide) (gw2 21 rfl rfl) (gw2 19 rfl rfl) (gw2 20 rfl rfl) (gw1 1 rfl rfl), List.forall_mem_cons.mpr ⟨k_if_eq (show decode cX6_setSpan 27 = .ok (.ifCond .eq 13, 3) by decide +kernel) (by decide), List.forall_mem_cons.mpr ⟨k_thr (text := "span out of range") (by decide +kernel) (gw2 22 rfl rfl) (gw1 11 rfl rfl) (by decide +kernel) th_w42 (show decode cX6_setSpan 30 = .ok (.new 38, 3) by decide +kernel) (show decode cX6_setSpan 33 = .ok (.dup, 1) by decide +kernel) (show decode cX6_setSpan 34 = .ok (.ldc 64, 2) by decide +kernel) (show decode cX6_setSpan 36 = .ok (.invokespecial 42, 3) by decide +kernel) (show decode cX6_setSpan 39 = .ok (.athrow, 1) by decide +kernel), List.forall_mem_cons.mpr ⟨k_ald_n (show decode cX6_setSpan 40 = .ok (.aload_n 0, 1) by decide +kernel) rfl, List.forall_mem_cons.mpr ⟨k_getf (C := RX6) (T := TX6) (N := 5) (show decode cX6_setSpan 41 = .ok (.getfield 10, 3) by decide +kernel) rfl inX6 (by decide) (gw1 239 rfl rfl) (by decide), List.forall_mem_cons.mpr ⟨k_getf (C := RX1) (T := TX1) (N := 10) (show decode cX6_setSpan 44 = .ok (.getfield 66, 3) by decide +kernel) rfl inX1 (by decide) (gw1 170 rfl rfl) (by decide), List.forall_mem_cons.mpr ⟨k_ild_n (show decode cX6_setSpan 47 = .ok (.iload_n 1, 1) by decide +kernel) rfl, List.forall_mem_cons.mpr ⟨k_aald (show decode cX6_setSpan 48 = .ok (.aaload, 1) by decide +kernel) (by decide) rfl, List.forall_mem_cons.mpr ⟨k_getf (C := RX3) (T := TX3) (N := 3) (show decode cX6_setSpan 49 = .ok (.getfield 70, 3) by decide +kernel) rfl inX3 (by decide) (gw1 64 rfl rfl) (by decide), List.forall_mem_cons.mpr ⟨k_ist_n (show decode cX6_setSpan 52 = .ok (.istore_n 3, 1) by decide +kernel) rfl (by decide), List.forall_mem_cons.mpr ⟨k_ald_n (show decode cX6_setSpan 53 = .ok (.aload_n 0, 1) by decide +kernel) rfl, List.forall_mem_cons.mpr ⟨k_inv (M := mX6_save) (T := TX6) (N := 5) rfl rfl (show decode cX6_setSpan 54 = .ok (.invokevirtual 48, 3) by decide +kernel) rfl (by decide) (by decide +kernel) (by decide) (gw2 109 rfl rfl) (gw2 106 rfl rfl) (gw2 108 rfl rfl) (gs1 1 rfl) (gw1 1 rfl rfl) (fun _ h => absurd h List.not_mem_nil), List.forall_mem_cons.mpr ⟨k_ald_n (show decode cX6_setSpan 57 = .ok (.aload_n 0, 1) by decide +kernel) rfl, List.forall_mem_cons.mpr ⟨k_getf (C := RX6) (T := TX6) (N := 5) (show decode cX6_setSpan 58 = .ok (.getfield 10, 3) by decide +kernel) rfl inX6 (by decide) (gw1 239 rfl rfl) (by decide), List.forall_mem_cons.mpr ⟨k_getf (C := RX1) (T := TX1) (N := 10) (show decode cX6_setSpan 61 = .ok (.getfield 66, 3) by decide +kernel) rfl inX1 (by decide) (gw1 170 rfl rfl) (by decide), List.forall_mem_cons.mpr ⟨k_ild_n (show decode cX6_setSpan 64 = .ok (.iload_n 1, 1) by decide +kernel) rfl, List.forall_mem_cons.mpr ⟨k_aald (show decode cX6_setSpan 65 = .ok (.aaload, 1) by decide +kernel) (by decide) rfl, List.forall_mem_cons.mpr ⟨k_ild_n (show decode cX6_setSpan 66 = .ok (.iload_n 2, 1) by decide +kernel) rfl, List.forall_mem_cons.mpr ⟨k_puti (C := RX3) (T := TX3) (N := 3) (show decode cX6_setSpan 67 = .ok (.putfield 70, 3) by decide +kernel) rfl inX3 tyX3_ok nmX3 (by decide) rfl rfl (gw1 64 rfl rfl) (by decide), List.forall_mem_cons.mpr ⟨k_ild_n (show decode cX6_setSpan 70 = .ok (.iload_n 3, 1) by decide +kernel) rfl, List.forall_mem_cons.mpr ⟨k_iret (show decode cX6_setSpan 71 = .ok (.ireturn, 1) by decide +kernel), fun _ h => absurd h List.not_mem_nil⟩⟩⟩⟩⟩⟩⟩⟩⟩⟩⟩⟩⟩⟩⟩⟩⟩⟩⟩⟩⟩⟩⟩⟩⟩⟩⟩⟩⟩⟩
set_option maxRecDepth 20000 in
theorem okX6_setStrength : ∀ q ∈ jcX6_setStrength, JOk mtab cX6_setStrength RX6 ("setStrength", []) 4 none q.1 q.2 := by
  unfold jcX6_setStrength
  exact List.forall_mem_cons.mpr ⟨k_ald_n (show decode cX6_setStrength 0 = .ok (.aload_n 0, 1) by decide +kernel) rfl, List.forall_mem_cons.mpr ⟨k_getf (C := RX6) (T := TX6) (N := 5) (show decode cX6_setStrength 1 = .ok (.getfield 10, 3) by decide +kernel) rfl inX6 (by decide) (gw1 239 rfl rfl) (by decide), List.forall_mem_cons.mpr ⟨k_ild_n (show decode cX6_setStrength 4 = .ok (.iload_n 1, 1) by decide +kernel) rfl, List.forall_mem_cons.mpr ⟨k_inv (M := mX1_hasTug) (T := TX1) (N := 10) rfl rfl (show decode cX6_setStrength 5 = .ok (.invokevirtual 75, 3) by decide +kernel) rfl (by decide) (by decide +kernel) (by decide) (gw3 81 rfl rfl) (gw3 78 rfl rfl) (gw3 79 rfl rfl) (gw3 80 rfl rfl) (gw1 2 rfl rfl) (fun _ h => absurd h List.not_mem_nil), List.forall_mem_cons.mpr ⟨k_if_ne (show decode cX6_setStrength 8 = .ok (.ifCond .ne 13, 3) by decide +kernel) (by decide), List.forall_mem_cons.mpr ⟨k_thr (text := "no such tug") (by decide +kernel) (gw3 57 rfl rfl) (gw1 13 rfl rfl) (by decide +kernel) th_w63 (show decode cX6_setStrength 11 = .ok (.new 59, 3) by decide +kernel) (show decode cX6_setStrength 14 = .ok (.dup, 1) by decide +kernel) (show decode cX6_setStrength 15 = .ok (.ldc 78, 2) by decide +kernel) (show decode cX6_setStrength 17 = .ok (.invokespecial 63, 3) by decide +kernel) (show decode cX6_setStrength 20 = .ok (.athrow, 1) by decide +kernel), List.forall_mem_cons.mpr ⟨k_ild_n (show decode cX6_setStrength 21 = .ok (.iload_n 2, 1) by decide +kernel) rfl, List.forall_mem_cons.mpr ⟨k_iconst (show decode cX6_setStrength 22 = .ok (.iconst 1, 1) by decide +kernel) (by decide +kernel), List.forall_mem_cons.mpr ⟨k_iconst (show decode cX6_setStrength 23 = .ok (.iconst 3, 1) by decide +kernel) (by decide +kernel), List.forall_mem_cons.mpr ⟨k_ins (M := mX6_isOutside) rfl rfl (show decode cX6_setStrength 24 = .ok (.invokestatic 34, 3) by decide +kernel) (by decide +kernel) (by decide) (gw2 21 rfl rfl) (gw2 19 rfl rfl) (gw2 20 rfl rfl) (gw1 1 rfl rfl), List.forall_mem_cons.mpr ⟨k_if_eq (show decode cX6_setStrength 27 = .ok (.ifCond .eq 13, 3) by decide +kernel) (by decide), List.forall_mem_cons.mpr ⟨k_thr (text := "strength out of range") (by decide +kernel) (gw2 22 rfl rfl) (gw1 11 rfl rfl) (by decide +kernel) th_w42 (show decode cX6_setStrength 30 = .ok (.new 38, 3) by decide +kernel) (show decode cX6_setStrength 33 = .ok (.dup, 1) by decide +kernel) (show decode cX6_setStrength 34 = .ok (.ldc 80, 2) by decide +kernel) (show decode cX6_setStrength 36 = .ok (.invokespecial 42, 3) by decide +kernel) (show decode cX6_setStrength 39 = .ok (.athrow, 1) by decide +kernel), List.forall_mem_cons.mpr ⟨k_ald_n (show decode cX6_setStrength 40 = .ok (.aload_n 0, 1) by decide +kernel) rfl, List.forall_mem_cons.mpr ⟨k_getf (C := RX6) (T := TX6) (N := 5) (show decode cX6_setStrength 41 = .ok (.getfield 10, 3) by decide +kernel) rfl inX6 (by decide) (gw1 239 rfl rfl) (by decide), List.forall_mem_cons.mpr ⟨k_getf (C := RX1) (T := TX1) (N := 10) (show decode cX6_setStrength 44 = .ok (.getfield 82, 3) by decide +kernel) rfl inX1 (by decide) (gw1 172 rfl rfl) (by decide), List.forall_mem_cons.mpr ⟨k_ild_n (show decode cX6_setStrength 47 = .ok (.iload_n 1, 1) by decide +kernel) rfl, List.forall_mem_cons.mpr ⟨k_aald (show decode cX6_setStrength 48 = .ok (.aaload, 1) by decide +kernel) (by decide) rfl, List.forall_mem_cons.mpr ⟨k_getf (C := RX5) (T := TX5) (N := 5) (show decode cX6_setStrength 49 = .ok (.getfield 86, 3) by decide +kernel) rfl inX5 (by decide) (gw1 84 rfl rfl) (by decide), List.forall_mem_cons.mpr ⟨k_ist_n (show decode cX6_setStrength 52 = .ok (.istore_n 3, 1) by decide +kernel) rfl (by decide), List.forall_mem_cons.mpr ⟨k_ald_n (show decode cX6_setStrength 53 = .ok (.aload_n 0, 1) by decide +kernel) rfl, List.forall_mem_cons.mpr ⟨k_inv (M := mX6_save) (T := TX6) (N := 5) rfl rfl (show decode cX6_setStrength 54 = .ok (.invokevirtual 48, 3) by decide +kernel) rfl (by decide) (by decide +kernel) (by decide) (gw2 109 rfl rfl) (gw2 106 rfl rfl) (gw2 108 rfl rfl) (gs1 1 rfl) (gw1 1 rfl rfl) (fun _ h => absurd h List.not_mem_nil), List.forall_mem_cons.mpr ⟨k_ald_n (show decode cX6_setStrength 57 = .ok (.aload_n 0, 1) by decide +kernel) rfl, List.forall_mem_cons.mpr ⟨k_getf (C := RX6) (T := TX6) (N := 5) (show decode cX6_setStrength 58 = .ok (.getfield 10, 3) by decide +kernel) rfl inX6 (by decide) (gw1 239 rfl rfl) (by decide), List.forall_mem_cons.mpr ⟨k_getf (C := RX1) (T := TX1) (N := 10) (show decode cX6_setStrength 61 = .ok (.getfield 82, 3) by decide +kernel) rfl inX1 (by decide) (gw1 172 rfl rfl) (by decide), List.forall_mem_cons.mpr ⟨k_ild_n (show decode cX6_setStrength 64 = .ok (.iload_n 1, 1) by decide +kernel) rfl, List.forall_mem_cons.mpr ⟨k_aald (show decode cX6_setStrength 65 = .ok (.aaload, 1) by decide +kernel) (by decide) rfl, List.forall_mem_cons.mpr ⟨k_ild_n (show decode cX6_setStrength 66 = .ok (.iload_n 2, 1) by decide +kernel) rfl, List.forall_mem_cons.mpr ⟨k_puti (C := RX5) (T := TX5) (N := 5) (show decode cX6_setStrength 67 = .ok (.putfield 86, 3) by decide +kernel) rfl inX5 tyX5_ok nmX5 (by decide) rfl rfl (gw1 84 rfl rfl) (by decide), List.forall_mem_cons.mpr ⟨k_ild_n (show decode cX6_setStrength 70 = .ok (.iload_n 3, 1) by decide +kernel) rfl, List.forall_mem_cons.mpr ⟨k_iret (show decode cX6_setStrength 71 = .ok (.ireturn, 1) by decide +kernel), fun _ h => absurd h List.not_mem_nil⟩⟩⟩⟩⟩⟩⟩⟩⟩⟩⟩⟩⟩⟩⟩⟩⟩⟩⟩⟩⟩⟩⟩⟩⟩⟩⟩⟩⟩⟩
set_option maxRecDepth 20000 in
theorem okX6_setCurfew : ∀ q ∈ jcX6_setCurfew, JOk mtab cX6_setCurfew RX6 ("setCurfew", []) 3 none q.1 q.2 := by
  unfold jcX6_setCurfew
  exact List.forall_mem_cons.mpr ⟨k_ild_n (show decode cX6_setCurfew 0 = .ok (.iload_n 1, 1) by decide +kernel) rfl, List.forall_mem_cons.mpr ⟨k_iconst (show decode cX6_setCurfew 1 = .ok (.iconst 0, 1) by decide +kernel) (by decide +kernel), List.forall_mem_cons.mpr ⟨k_sipush (show decode cX6_setCurfew 2 = .ok (.sipush 1440, 3) by decide +kernel) (by decide +kernel), List.forall_mem_cons.mpr ⟨k_ins (M := mX6_isOutside) rfl rfl (show decode cX6_setCurfew 5 = .ok (.invokestatic 34, 3) by decide +kernel) (by decide +kernel) (by decide) (gw2 21 rfl rfl) (gw2 19 rfl rfl) (gw2 20 rfl rfl) (gw1 1 rfl rfl), List.forall_mem_cons.mpr ⟨k_if_ne (show decode cX6_setCurfew 8 = .ok (.ifCond .ne 14, 3) by decide +kernel) (by decide), List.forall_mem_cons.mpr ⟨k_ild_n (show decode cX6_setCurfew 11 = .ok (.iload_n 2, 1) by decide +kernel) rfl, List.forall_mem_cons.mpr ⟨k_iconst (show decode cX6_setCurfew 12 = .ok (.iconst 0, 1) by decide +kernel) (by decide +kernel), List.forall_mem_cons.mpr ⟨k_sipush (show decode cX6_setCurfew 13 = .ok (.sipush 1440, 3) by decide +kernel) (by decide +kernel), List.forall_mem_cons.mpr ⟨k_ins (M := mX6_isOutside) rfl rfl (show decode cX6_setCurfew 16 = .ok (.invokestatic 34, 3) by decide +kernel) (by decide +kernel) (by decide) (gw2 21 rfl rfl) (gw2 19 rfl rfl) (gw2 20 rfl rfl) (gw1 1 rfl rfl), List.forall_mem_cons.mpr ⟨k_if_eq (show decode cX6_setCurfew 19 = .ok (.ifCond .eq 13, 3) by decide +kernel) (by decide), List.forall_mem_cons.mpr ⟨k_thr (text := "begin or end out of range") (by decide +kernel) (gw2 22 rfl rfl) (gw1 11 rfl rfl) (by decide +kernel) th_w42 (show decode cX6_setCurfew 22 = .ok (.new 38, 3) by decide +kernel) (show decode cX6_setCurfew 25 = .ok (.dup, 1) by decide +kernel) (show decode cX6_setCurfew 26 = .ok (.ldc 91, 2) by decide +kernel) (show decode cX6_setCurfew 28 = .ok (.invokespecial 42, 3) by decide +kernel) (show decode cX6_setCurfew 31 = .ok (.athrow, 1) by decide +kernel), List.forall_mem_cons.mpr ⟨k_ald_n (show decode cX6_setCurfew 32 = .ok (.aload_n 0, 1) by decide +kernel) rfl, List.forall_mem_cons.mpr ⟨k_inv (M := mX6_save) (T := TX6) (N := 5) rfl rfl (show decode cX6_setCurfew 33 = .ok (.invokevirtual 48, 3) by decide +kernel) rfl (by decide) (by decide +kernel) (by decide) (gw2 109 rfl rfl) (gw2 106 rfl rfl) (gw2 108 rfl rfl) (gs1 1 rfl) (gw1 1 rfl rfl) (fun _ h => absurd h List.not_mem_nil), List.forall_mem_cons.mpr ⟨k_ald_n (show decode cX6_setCurfew 36 = .ok (.aload_n 0, 1) by decide +kernel) rfl, List.forall_mem_cons.mpr ⟨k_getf (C := RX6) (T := TX6) (N := 5) (show decode cX6_setCurfew 37 = .ok (.getfield 10, 3) by decide +kernel) rfl inX6 (by decide) (gw1 239 rfl rfl) (by decide), List.forall_mem_cons.mpr ⟨k_ild_n (show decode cX6_setCurfew 40 = .ok (.iload_n 1, 1) by decide +kernel) rfl, List.forall_mem_cons.mpr ⟨k_puti (C := RX1) (T := TX1) (N := 10) (show decode cX6_setCurfew 41 = .ok (.putfield 93, 3) by decide +kernel) rfl inX1 tyX1_ok nmX1 (by decide) rfl rfl (gw1 184 rfl rfl) (by decide), List.forall_mem_cons.mpr ⟨k_ald_n (show decode cX6_setCurfew 44 = .ok (.aload_n 0, 1) by decide +kernel) rfl, List.forall_mem_cons.mpr ⟨k_getf (C := RX6) (T := TX6) (N := 5) (show decode cX6_setCurfew 45 = .ok (.getfield 10, 3) by decide +kernel) rfl inX6 (by decide) (gw1 239 rfl rfl) (by decide), List.forall_mem_cons.mpr ⟨k_ild_n (show decode cX6_setCurfew 48 = .ok (.iload_n 2, 1) by decide +kernel) rfl, List.forall_mem_cons.mpr ⟨k_puti (C := RX1) (T := TX1) (N := 10) (show decode cX6_setCurfew 49 = .ok (.putfield 96, 3) by decide +kernel) rfl inX1 tyX1_ok nmX1 (by decide) rfl rfl (gw1 186 rfl rfl) (by decide), List.forall_mem_cons.mpr ⟨k_iconst (show decode cX6_setCurfew 52 = .ok (.iconst 0, 1) by decide +kernel) (by decide +kernel), List.forall_mem_cons.mpr ⟨k_ild_n (show decode cX6_setCurfew 53 = .ok (.iload_n 2, 1) by decide +kernel) rfl, List.forall_mem_cons.mpr ⟨k_ild_n (show decode cX6_setCurfew 54 = .ok (.iload_n 1, 1) by decide +kernel) rfl, List.forall_mem_cons.mpr ⟨k_isub (show decode cX6_setCurfew 55 = .ok (.isub, 1) by decide +kernel), List.forall_mem_cons.mpr ⟨k_mmax (show decode cX6_setCurfew 56 = .ok (.invokestatic 99, 3) by decide +kernel) (gw3 92 rfl rfl) (gw2 221 rfl rfl) (gw1 14 rfl rfl) (gw2 222 (by decide +kernel) rfl), List.forall_mem_cons.mpr ⟨k_iret (show decode cX6_setCurfew 59 = .ok (.ireturn, 1) by decide +kernel), fun _ h => absurd h List.not_mem_nil⟩⟩⟩⟩⟩⟩⟩⟩⟩⟩⟩⟩⟩⟩⟩⟩⟩⟩⟩⟩⟩⟩⟩⟩⟩⟩⟩
set_option maxRecDepth 20000 in
theorem okX6_expect : ∀ q ∈ jcX6_expect, JOk mtab cX6_expect RX6 ("expect", []) 6 none q.1 q.2 := by
  unfold jcX6_expect
  exact List.forall_mem_cons.mpr ⟨k_ild_n (show decode cX6_expect 0 = .ok (.iload_n 1, 1) by decide +kernel) rfl, List.forall_mem_cons.mpr ⟨k_ins (M := mX6_isKind) rfl rfl (show decode cX6_expect 1 = .ok (.invokestatic 105, 3) by decide +kernel) (by decide +kernel) (by decide) (gw3 99 rfl rfl) (gw3 97 rfl rfl) (gw3 98 rfl rfl) (gw1 1 rfl rfl), List.forall_mem_cons.mpr ⟨k_if_eq (show decode cX6_expect 4 = .ok (.ifCond .eq 38, 3) by decide +kernel) (by decide), List.forall_mem_cons.mpr ⟨k_ild_n (show decode cX6_expect 7 = .ok (.iload_n 2, 1) by decide +kernel) rfl, List.forall_mem_cons.mpr ⟨k_iconst (show decode cX6_expect 8 = .ok (.iconst 0, 1) by decide +kernel) (by decide +kernel), List.forall_mem_cons.mpr ⟨k_sipush (show decode cX6_expect 9 = .ok (.sipush 1999, 3) by decide +kernel) (by decide +kernel), List.forall_mem_cons.mpr ⟨k_ins (M := mX6_isOutside) rfl rfl (show decode cX6_expect 12 = .ok (.invokestatic 34, 3) by decide +kernel) (by decide +kernel) (by decide) (gw2 21 rfl rfl) (gw2 19 rfl rfl) (gw2 20 rfl rfl) (gw1 1 rfl rfl), List.forall_mem_cons.mpr ⟨k_if_ne (show decode cX6_expect 15 = .ok (.ifCond .ne 27, 3) by decide +kernel) (by decide), List.forall_mem_cons.mpr ⟨k_ild_n (show decode cX6_expect 18 = .ok (.iload_n 3, 1) by decide +kernel) rfl, List.forall_mem_cons.mpr ⟨k_ild_n (show decode cX6_expect 19 = .ok (.iload_n 2, 1) by decide +kernel) rfl, List.forall_mem_cons.mpr ⟨k_icmp_le (show decode cX6_expect 20 = .ok (.if_icmp .le 22, 3) by decide +kernel) (by decide), List.forall_mem_cons.mpr ⟨k_ild_n (show decode cX6_expect 23 = .ok (.iload_n 3, 1) by decide +kernel) rfl, List.forall_mem_cons.mpr ⟨k_sipush (show decode cX6_expect 24 = .ok (.sipush 1999, 3) by decide +kernel) (by decide +kernel), List.forall_mem_cons.mpr ⟨k_icmp_gt (show decode cX6_expect 27 = .ok (.if_icmp .gt 15, 3) by decide +kernel) (by decide), List.forall_mem_cons.mpr ⟨k_ild (show decode cX6_expect 30 = .ok (.iload 4, 2) by decide +kernel), List.forall_mem_cons.mpr ⟨k_iconst (show decode cX6_expect 32 = .ok (.iconst 0, 1) by decide +kernel) (by decide +kernel), List.forall_mem_cons.mpr ⟨k_sipush (show decode cX6_expect 33 = .ok (.sipush 400, 3) by decide +kernel) (by decide +kernel), List.forall_mem_cons.mpr ⟨k_ins (M := mX6_isOutside) rfl rfl (show decode cX6_expect 36 = .ok (.invokestatic 34, 3) by decide +kernel) (by decide +kernel) (by decide) (gw2 21 rfl rfl) (gw2 19 rfl rfl) (gw2 20 rfl rfl) (gw1 1 rfl rfl), List.forall_mem_cons.mpr ⟨k_if_eq (show decode cX6_expect 39 = .ok (.ifCond .eq 13, 3) by decide +kernel) (by decide), List.forall_mem_cons.mpr ⟨k_thr (text := "kind, minutes or passengers out of range") (by decide +kernel) (gw2 22 rfl rfl) (gw1 11 rfl rfl) (by decide +kernel) th_w42 (show decode cX6_expect 42 = .ok (.new 38, 3) by decide +kernel) (show decode cX6_expect 45 = .ok (.dup, 1) by decide +kernel) (show decode cX6_expect 46 = .ok (.ldc 108, 2) by decide +kernel) (show decode cX6_expect 48 = .ok (.invokespecial 42, 3) by decide +kernel) (show decode cX6_expect 51 = .ok (.athrow, 1) by decide +kernel), List.forall_mem_cons.mpr ⟨k_ald_n (show decode cX6_expect 52 = .ok (.aload_n 0, 1) by decide +kernel) rfl, List.forall_mem_cons.mpr ⟨k_getf (C := RX6) (T := TX6) (N := 5) (show decode cX6_expect 53 = .ok (.getfield 10, 3) by decide +kernel) rfl inX6 (by decide) (gw1 239 rfl rfl) (by decide), List.forall_mem_cons.mpr ⟨k_getf (C := RX1) (T := TX1) (N := 10) (show decode cX6_expect 56 = .ok (.getfield 110, 3) by decide +kernel) rfl inX1 (by decide) (gw1 180 rfl rfl) (by decide), List.forall_mem_cons.mpr ⟨k_bipush (show decode cX6_expect 59 = .ok (.bipush 12, 2) by decide +kernel) (by decide +kernel), List.forall_mem_cons.mpr ⟨k_icmp_lt (show decode cX6_expect 61 = .ok (.if_icmp .lt 13, 3) by decide +kernel) (by decide), List.forall_mem_cons.mpr ⟨k_thr (text := "12 aircraft already") (by decide +kernel) (gw2 90 rfl rfl) (gw1 15 rfl rfl) (by decide +kernel) th_w117 (show decode cX6_expect 64 = .ok (.new 113, 3) by decide +kernel) (show decode cX6_expect 67 = .ok (.dup, 1) by decide +kernel) (show decode cX6_expect 68 = .ok (.ldc 115, 2) by decide +kernel) (show decode cX6_expect 70 = .ok (.invokespecial 117, 3) by decide +kernel) (show decode cX6_expect 73 = .ok (.athrow, 1) by decide +kernel), List.forall_mem_cons.mpr ⟨k_ald_n (show decode cX6_expect 74 = .ok (.aload_n 0, 1) by decide +kernel) rfl, List.forall_mem_cons.mpr ⟨k_getf (C := RX6) (T := TX6) (N := 5) (show decode cX6_expect 75 = .ok (.getfield 10, 3) by decide +kernel) rfl inX6 (by decide) (gw1 239 rfl rfl) (by decide), List.forall_mem_cons.mpr ⟨k_getf (C := RX1) (T := TX1) (N := 10) (show decode cX6_expect 78 = .ok (.getfield 110, 3) by decide +kernel) rfl inX1 (by decide) (gw1 180 rfl rfl) (by decide), List.forall_mem_cons.mpr ⟨k_ist (show decode cX6_expect 81 = .ok (.istore 5, 2) by decide +kernel) (by decide), List.forall_mem_cons.mpr ⟨k_ald_n (show decode cX6_expect 83 = .ok (.aload_n 0, 1) by decide +kernel) rfl, List.forall_mem_cons.mpr ⟨k_inv (M := mX6_save) (T := TX6) (N := 5) rfl rfl (show decode cX6_expect 84 = .ok (.invokevirtual 48, 3) by decide +kernel) rfl (by decide) (by decide +kernel) (by decide) (gw2 109 rfl rfl) (gw2 106 rfl rfl) (gw2 108 rfl rfl) (gs1 1 rfl) (gw1 1 rfl rfl) (fun _ h => absurd h List.not_mem_nil), List.forall_mem_cons.mpr ⟨k_ald_n (show decode cX6_expect 87 = .ok (.aload_n 0, 1) by decide +kernel) rfl, List.forall_mem_cons.mpr ⟨k_getf (C := RX6) (T := TX6) (N := 5) (show decode cX6_expect 88 = .ok (.getfield 10, 3) by decide +kernel) rfl inX6 (by decide) (gw1 239 rfl rfl) (by decide), List.forall_mem_cons.mpr ⟨k_ild_n (show decode cX6_expect 91 = .ok (.iload_n 1, 1) by decide +kernel) rfl, List.forall_mem_cons.mpr ⟨k_ild_n (show decode cX6_expect 92 = .ok (.iload_n 2, 1) by decide +kernel) rfl, List.forall_mem_cons.mpr ⟨k_ild_n (show decode cX6_expect 93 = .ok (.iload_n 3, 1) by decide +kernel) rfl, List.forall_mem_cons.mpr ⟨k_ild (show decode cX6_expect 94 = .ok (.iload 4, 2) by decide +kernel), List.forall_mem_cons.mpr ⟨k_inv (M := mX1_add) (T := TX1) (N := 10) rfl rfl (show decode cX6_expect 96 = .ok (.invokevirtual 118, 3) by decide +kernel) rfl (by decide) (by decide +kernel) (by decide) (gw3 105 rfl rfl) (gw3 102 rfl rfl) (gw3 103 rfl rfl) (gw3 104 rfl rfl) (gw1 2 rfl rfl) (fun _ h => absurd h List.not_mem_nil), List.forall_mem_cons.mpr ⟨k_ild (show decode cX6_expect 99 = .ok (.iload 5, 2) by decide +kernel), List.forall_mem_cons.mpr ⟨k_iret (show decode cX6_expect 101 = .ok (.ireturn, 1) by decide +kernel), fun _ h => absurd h List.not_mem_nil⟩⟩⟩⟩⟩⟩⟩⟩⟩⟩⟩⟩⟩⟩⟩⟩⟩⟩⟩⟩⟩⟩⟩⟩⟩⟩⟩⟩⟩⟩⟩⟩⟩⟩⟩⟩⟩⟩⟩⟩⟩
set_option maxRecDepth 20000 in
theorem okX6_setLeaves : ∀ q ∈ jcX6_setLeaves, JOk mtab cX6_setLeaves RX6 ("setLeaves", []) 5 none q.1 q.2 := by
  unfold jcX6_setLeaves
  exact List.forall_mem_cons.mpr ⟨k_ald_n (show decode cX6_setLeaves 0 = .ok (.aload_n 0, 1) by decide +kernel) rfl, List.forall_mem_cons.mpr ⟨k_getf (C := RX6) (T := TX6) (N := 5) (show decode cX6_setLeaves 1 = .ok (.getfield 10, 3) by decide +kernel) rfl inX6 (by decide) (gw1 239 rfl rfl) (by decide), List.forall_mem_cons.mpr ⟨k_ild_n (show decode cX6_setLeaves 4 = .ok (.iload_n 1, 1) by decide +kernel) rfl, List.forall_mem_cons.mpr ⟨k_inv (M := mX1_hasAircraft) (T := TX1) (N := 10) rfl rfl (show decode cX6_setLeaves 5 = .ok (.invokevirtual 122, 3) by decide +kernel) rfl (by decide) (by decide +kernel) (by decide) (gw3 117 rfl rfl) (gw3 114 rfl rfl) (gw3 115 rfl rfl) (gw3 116 rfl rfl) (gw1 2 rfl rfl) (fun _ h => absurd h List.not_mem_nil), List.forall_mem_cons.mpr ⟨k_if_ne (show decode cX6_setLeaves 8 = .ok (.ifCond .ne 13, 3) by decide +kernel) (by decide), List.forall_mem_cons.mpr ⟨k_thr (text := "no such aircraft") (by decide +kernel) (gw3 57 rfl rfl) (gw1 13 rfl rfl) (by decide +kernel) th_w63 (show decode cX6_setLeaves 11 = .ok (.new 59, 3) by decide +kernel) (show decode cX6_setLeaves 14 = .ok (.dup, 1) by decide +kernel) (show decode cX6_setLeaves 15 = .ok (.ldc 125, 2) by decide +kernel) (show decode cX6_setLeaves 17 = .ok (.invokespecial 63, 3) by decide +kernel) (show decode cX6_setLeaves 20 = .ok (.athrow, 1) by decide +kernel), List.forall_mem_cons.mpr ⟨k_ald_n (show decode cX6_setLeaves 21 = .ok (.aload_n 0, 1) by decide +kernel) rfl, List.forall_mem_cons.mpr ⟨k_getf (C := RX6) (T := TX6) (N := 5) (show decode cX6_setLeaves 22 = .ok (.getfield 10, 3) by decide +kernel) rfl inX6 (by decide) (gw1 239 rfl rfl) (by decide), List.forall_mem_cons.mpr ⟨k_getf (C := RX1) (T := TX1) (N := 10) (show decode cX6_setLeaves 25 = .ok (.getfield 127, 3) by decide +kernel) rfl inX1 (by decide) (gw1 174 rfl rfl) (by decide), List.forall_mem_cons.mpr ⟨k_ild_n (show decode cX6_setLeaves 28 = .ok (.iload_n 1, 1) by decide +kernel) rfl, List.forall_mem_cons.mpr ⟨k_aald (show decode cX6_setLeaves 29 = .ok (.aaload, 1) by decide +kernel) (by decide) rfl, List.forall_mem_cons.mpr ⟨k_ast_n (show decode cX6_setLeaves 30 = .ok (.astore_n 3, 1) by decide +kernel) rfl (by decide), List.forall_mem_cons.mpr ⟨k_ild_n (show decode cX6_setLeaves 31 = .ok (.iload_n 2, 1) by decide +kernel) rfl, List.forall_mem_cons.mpr ⟨k_ald_n (show decode cX6_setLeaves 32 = .ok (.aload_n 3, 1) by decide +kernel) rfl, List.forall_mem_cons.mpr ⟨k_getf (C := RX0) (T := TX0) (N := 10) (show decode cX6_setLeaves 33 = .ok (.getfield 131, 3) by decide +kernel) rfl inX0 (by decide) (gw1 114 rfl rfl) (by decide), List.forall_mem_cons.mpr ⟨k_icmp_le (show decode cX6_setLeaves 36 = .ok (.if_icmp .le 10, 3) by decide +kernel) (by decide), List.forall_mem_cons.mpr ⟨k_ild_n (show decode cX6_setLeaves 39 = .ok (.iload_n 2, 1) by decide +kernel) rfl, List.forall_mem_cons.mpr ⟨k_sipush (show decode cX6_setLeaves 40 = .ok (.sipush 1999, 3) by decide +kernel) (by decide +kernel), List.forall_mem_cons.mpr ⟨k_icmp_le (show decode cX6_setLeaves 43 = .ok (.if_icmp .le 13, 3) by decide +kernel) (by decide), List.forall_mem_cons.mpr ⟨k_thr (text := "leaves out of range") (by decide +kernel) (gw2 22 rfl rfl) (gw1 11 rfl rfl) (by decide +kernel) th_w42 (show decode cX6_setLeaves 46 = .ok (.new 38, 3) by decide +kernel) (show decode cX6_setLeaves 49 = .ok (.dup, 1) by decide +kernel) (show decode cX6_setLeaves 50 = .ok (.ldc 136, 2) by decide +kernel) (show decode cX6_setLeaves 52 = .ok (.invokespecial 42, 3) by decide +kernel) (show decode cX6_setLeaves 55 = .ok (.athrow, 1) by decide +kernel), List.forall_mem_cons.mpr ⟨k_ald_n (show decode cX6_setLeaves 56 = .ok (.aload_n 3, 1) by decide +kernel) rfl, List.forall_mem_cons.mpr ⟨k_getf (C := RX0) (T := TX0) (N := 10) (show decode cX6_setLeaves 57 = .ok (.getfield 138, 3) by decide +kernel) rfl inX0 (by decide) (gw1 121 rfl rfl) (by decide), List.forall_mem_cons.mpr ⟨k_iconst (show decode cX6_setLeaves 60 = .ok (.iconst 4, 1) by decide +kernel) (by decide +kernel), List.forall_mem_cons.mpr ⟨k_icmp_eq (show decode cX6_setLeaves 61 = .ok (.if_icmp .eq 11, 3) by decide +kernel) (by decide), List.forall_mem_cons.mpr ⟨k_ald_n (show decode cX6_setLeaves 64 = .ok (.aload_n 3, 1) by decide +kernel) rfl, List.forall_mem_cons.mpr ⟨k_getf (C := RX0) (T := TX0) (N := 10) (show decode cX6_setLeaves 65 = .ok (.getfield 138, 3) by decide +kernel) rfl inX0 (by decide) (gw1 121 rfl rfl) (by decide), List.forall_mem_cons.mpr ⟨k_iconst (show decode cX6_setLeaves 68 = .ok (.iconst 5, 1) by decide +kernel) (by decide +kernel), List.forall_mem_cons.mpr ⟨k_icmp_ne (show decode cX6_setLeaves 69 = .ok (.if_icmp .ne 13, 3) by decide +kernel) (by decide), List.forall_mem_cons.mpr ⟨k_thr (text := "pushed back or gone") (by decide +kernel) (gw2 90 rfl rfl) (gw1 15 rfl rfl) (by decide +kernel) th_w117 (show decode cX6_setLeaves 72 = .ok (.new 113, 3) by decide +kernel) (show decode cX6_setLeaves 75 = .ok (.dup, 1) by decide +kernel) (show decode cX6_setLeaves 76 = .ok (.ldc 141, 2) by decide +kernel) (show decode cX6_setLeaves 78 = .ok (.invokespecial 117, 3) by decide +kernel) (show decode cX6_setLeaves 81 = .ok (.athrow, 1) by decide +kernel), List.forall_mem_cons.mpr ⟨k_ald_n (show decode cX6_setLeaves 82 = .ok (.aload_n 3, 1) by decide +kernel) rfl, List.forall_mem_cons.mpr ⟨k_getf (C := RX0) (T := TX0) (N := 10) (show decode cX6_setLeaves 83 = .ok (.getfield 143, 3) by decide +kernel) rfl inX0 (by decide) (gw1 117 rfl rfl) (by decide), List.forall_mem_cons.mpr ⟨k_ist (show decode cX6_setLeaves 86 = .ok (.istore 4, 2) by decide +kernel) (by decide), List.forall_mem_cons.mpr ⟨k_ald_n (show decode cX6_setLeaves 88 = .ok (.aload_n 0, 1) by decide +kernel) rfl, List.forall_mem_cons.mpr ⟨k_inv (M := mX6_save) (T := TX6) (N := 5) rfl rfl (show decode cX6_setLeaves 89 = .ok (.invokevirtual 48, 3) by decide +kernel) rfl (by decide) (by decide +kernel) (by decide) (gw2 109 rfl rfl) (gw2 106 rfl rfl) (gw2 108 rfl rfl) (gs1 1 rfl) (gw1 1 rfl rfl) (fun _ h => absurd h List.not_mem_nil), List.forall_mem_cons.mpr ⟨k_ald_n (show decode cX6_setLeaves 92 = .ok (.aload_n 3, 1) by decide +kernel) rfl, List.forall_mem_cons.mpr ⟨k_ild_n (show decode cX6_setLeaves 93 = .ok (.iload_n 2, 1) by decide +kernel) rfl, List.forall_mem_cons.mpr ⟨k_puti (C := RX0) (T := TX0) (N := 10) (show decode cX6_setLeaves 94 = .ok (.putfield 143, 3) by decide +kernel) rfl inX0 tyX0_ok nmX0 (by decide) rfl rfl (gw1 117 rfl rfl) (by decide), List.forall_mem_cons.mpr ⟨k_ild (show decode cX6_setLeaves 97 = .ok (.iload 4, 2) by decide +kernel), List.forall_mem_cons.mpr ⟨k_iret (show decode cX6_setLeaves 99 = .ok (.ireturn, 1) by decide +kernel), fun _ h => absurd h List.not_mem_nil⟩⟩⟩⟩⟩⟩⟩⟩⟩⟩⟩⟩⟩⟩⟩⟩⟩⟩⟩⟩⟩⟩⟩⟩⟩⟩⟩⟩⟩⟩⟩⟩⟩⟩⟩⟩⟩⟩⟩
set_option maxRecDepth 20000 in
theorem okX6_pass : ∀ q ∈ jcX6_pass, JOk mtab cX6_pass RX6 ("pass", []) 5 none q.1 q.2 := by
  unfold jcX6_pass
  exact List.forall_mem_cons.mpr ⟨k_ild_n (show decode cX6_pass 0 = .ok (.iload_n 1, 1) by decide +kernel) rfl, List.forall_mem_cons.mpr ⟨k_iconst (show decode cX6_pass 1 = .ok (.iconst 1, 1) by decide +kernel) (by decide +kernel), List.forall_mem_cons.mpr ⟨k_sipush (show decode cX6_pass 2 = .ok (.sipush 500, 3) by decide +kernel) (by decide +kernel), List.forall_mem_cons.mpr ⟨k_ins (M := mX6_isOutside) rfl rfl (show decode cX6_pass 5 = .ok (.invokestatic 34, 3) by decide +kernel) (by decide +kernel) (by decide) (gw2 21 rfl rfl) (gw2 19 rfl rfl) (gw2 20 rfl rfl) (gw1 1 rfl rfl), List.forall_mem_cons.mpr ⟨k_if_eq (show decode cX6_pass 8 = .ok (.ifCond .eq 13, 3) by decide +kernel) (by decide), List.forall_mem_cons.mpr ⟨k_thr (text := "minutes out of range") (by decide +kernel) (gw2 22 rfl rfl) (gw1 11 rfl rfl) (by decide +kernel) th_w42 (show decode cX6_pass 11 = .ok (.new 38, 3) by decide +kernel) (show decode cX6_pass 14 = .ok (.dup, 1) by decide +kernel) (show decode cX6_pass 15 = .ok (.ldc 146, 2) by decide +kernel) (show decode cX6_pass 17 = .ok (.invokespecial 42, 3) by decide +kernel) (show decode cX6_pass 20 = .ok (.athrow, 1) by decide +kernel), List.forall_mem_cons.mpr ⟨k_ald_n (show decode cX6_pass 21 = .ok (.aload_n 0, 1) by decide +kernel) rfl, List.forall_mem_cons.mpr ⟨k_getf (C := RX6) (T := TX6) (N := 5) (show decode cX6_pass 22 = .ok (.getfield 10, 3) by decide +kernel) rfl inX6 (by decide) (gw1 239 rfl rfl) (by decide), List.forall_mem_cons.mpr ⟨k_getf (C := RX1) (T := TX1) (N := 10) (show decode cX6_pass 25 = .ok (.getfield 45, 3) by decide +kernel) rfl inX1 (by decide) (gw1 181 rfl rfl) (by decide), List.forall_mem_cons.mpr ⟨k_ild_n (show decode cX6_pass 28 = .ok (.iload_n 1, 1) by decide +kernel) rfl, List.forall_mem_cons.mpr ⟨k_iadd (show decode cX6_pass 29 = .ok (.iadd, 1) by decide +kernel), List.forall_mem_cons.mpr ⟨k_sipush (show decode cX6_pass 30 = .ok (.sipush 10000, 3) by decide +kernel) (by decide +kernel), List.forall_mem_cons.mpr ⟨k_icmp_le (show decode cX6_pass 33 = .ok (.if_icmp .le 13, 3) by decide +kernel) (by decide), List.forall_mem_cons.mpr ⟨k_thr (text := "after the last minute") (by decide +kernel) (gw2 90 rfl rfl) (gw1 15 rfl rfl) (by decide +kernel) th_w117 (show decode cX6_pass 36 = .ok (.new 113, 3) by decide +kernel) (show decode cX6_pass 39 = .ok (.dup, 1) by decide +kernel) (show decode cX6_pass 40 = .ok (.ldc 148, 2) by decide +kernel) (show decode cX6_pass 42 = .ok (.invokespecial 117, 3) by decide +kernel) (show decode cX6_pass 45 = .ok (.athrow, 1) by decide +kernel), List.forall_mem_cons.mpr ⟨k_ald_n (show decode cX6_pass 46 = .ok (.aload_n 0, 1) by decide +kernel) rfl, List.forall_mem_cons.mpr ⟨k_inv (M := mX6_save) (T := TX6) (N := 5) rfl rfl (show decode cX6_pass 47 = .ok (.invokevirtual 48, 3) by decide +kernel) rfl (by decide) (by decide +kernel) (by decide) (gw2 109 rfl rfl) (gw2 106 rfl rfl) (gw2 108 rfl rfl) (gs1 1 rfl) (gw1 1 rfl rfl) (fun _ h => absurd h List.not_mem_nil), List.forall_mem_cons.mpr ⟨k_ald_n (show decode cX6_pass 50 = .ok (.aload_n 0, 1) by decide +kernel) rfl, List.forall_mem_cons.mpr ⟨k_getf (C := RX6) (T := TX6) (N := 5) (show decode cX6_pass 51 = .ok (.getfield 10, 3) by decide +kernel) rfl inX6 (by decide) (gw1 239 rfl rfl) (by decide), List.forall_mem_cons.mpr ⟨k_iconst (show decode cX6_pass 54 = .ok (.iconst 5, 1) by decide +kernel) (by decide +kernel), List.forall_mem_cons.mpr ⟨k_inv (M := mX1_countAt) (T := TX1) (N := 10) rfl rfl (show decode cX6_pass 55 = .ok (.invokevirtual 150, 3) by decide +kernel) rfl (by decide) (by decide +kernel) (by decide) (gw2 140 rfl rfl) (gw2 137 rfl rfl) (gw2 138 rfl rfl) (gw2 139 rfl rfl) (gw1 2 rfl rfl) (fun _ h => absurd h List.not_mem_nil), List.forall_mem_cons.mpr ⟨k_ist_n (show decode cX6_pass 58 = .ok (.istore_n 2, 1) by decide +kernel) rfl (by decide), List.forall_mem_cons.mpr ⟨k_iconst (show decode cX6_pass 59 = .ok (.iconst 0, 1) by decide +kernel) (by decide +kernel), List.forall_mem_cons.mpr ⟨k_ist_n (show decode cX6_pass 60 = .ok (.istore_n 3, 1) by decide +kernel) rfl (by decide), List.forall_mem_cons.mpr ⟨k_iconst (show decode cX6_pass 61 = .ok (.iconst 0, 1) by decide +kernel) (by decide +kernel), List.forall_mem_cons.mpr ⟨k_ist (show decode cX6_pass 62 = .ok (.istore 4, 2) by decide +kernel) (by decide), List.forall_mem_cons.mpr ⟨k_ild (show decode cX6_pass 64 = .ok (.iload 4, 2) by decide +kernel), List.forall_mem_cons.mpr ⟨k_ild_n (show decode cX6_pass 66 = .ok (.iload_n 1, 1) by decide +kernel) rfl, List.forall_mem_cons.mpr ⟨k_icmp_ge (show decode cX6_pass 67 = .ok (.if_icmp .ge 27, 3) by decide +kernel) (by decide), List.forall_mem_cons.mpr ⟨k_ild_n (show decode cX6_pass 70 = .ok (.iload_n 3, 1) by decide +kernel) rfl, List.forall_mem_cons.mpr ⟨k_ild_n (show decode cX6_pass 71 = .ok (.iload_n 1, 1) by decide +kernel) rfl, List.forall_mem_cons.mpr ⟨k_icmp_ge (show decode cX6_pass 72 = .ok (.if_icmp .ge 22, 3) by decide +kernel) (by decide), List.forall_mem_cons.mpr ⟨k_ild_n (show decode cX6_pass 75 = .ok (.iload_n 3, 1) by decide +kernel) rfl, List.forall_mem_cons.mpr ⟨k_ald_n (show decode cX6_pass 76 = .ok (.aload_n 0, 1) by decide +kernel) rfl, List.forall_mem_cons.mpr ⟨k_getf (C := RX6) (T := TX6) (N := 5) (show decode cX6_pass 77 = .ok (.getfield 10, 3) by decide +kernel) rfl inX6 (by decide) (gw1 239 rfl rfl) (by decide), List.forall_mem_cons.mpr ⟨k_ild_n (show decode cX6_pass 80 = .ok (.iload_n 1, 1) by decide +kernel) rfl, List.forall_mem_cons.mpr ⟨k_ild_n (show decode cX6_pass 81 = .ok (.iload_n 3, 1) by decide +kernel) rfl, List.forall_mem_cons.mpr ⟨k_isub (show decode cX6_pass 82 = .ok (.isub, 1) by decide +kernel), List.forall_mem_cons.mpr ⟨k_inv (M := mX1_passSome) (T := TX1) (N := 10) rfl rfl (show decode cX6_pass 83 = .ok (.invokevirtual 154, 3) by decide +kernel) rfl (by decide) (by decide +kernel) (by decide) (gw2 144 rfl rfl) (gw2 141 rfl rfl) (gw2 142 rfl rfl) (gw2 143 rfl rfl) (gw1 2 rfl rfl) (fun _ h => absurd h List.not_mem_nil), List.forall_mem_cons.mpr ⟨k_iadd (show decode cX6_pass 86 = .ok (.iadd, 1) by decide +kernel), List.forall_mem_cons.mpr ⟨k_ist_n (show decode cX6_pass 87 = .ok (.istore_n 3, 1) by decide +kernel) rfl (by decide), List.forall_mem_cons.mpr ⟨k_iinc (show decode cX6_pass 88 = .ok (.iinc 4 1, 3) by decide +kernel) (by decide +kernel) (by decide), List.forall_mem_cons.mpr ⟨k_goto (show decode cX6_pass 91 = .ok (.goto (-27), 3) by decide +kernel) (by decide), List.forall_mem_cons.mpr ⟨k_ald_n (show decode cX6_pass 94 = .ok (.aload_n 0, 1) by decide +kernel) rfl, List.forall_mem_cons.mpr ⟨k_getf (C := RX6) (T := TX6) (N := 5) (show decode cX6_pass 95 = .ok (.getfield 10, 3) by decide +kernel) rfl inX6 (by decide) (gw1 239 rfl rfl) (by decide), List.forall_mem_cons.mpr ⟨k_iconst (show decode cX6_pass 98 = .ok (.iconst 5, 1) by decide +kernel) (by decide +kernel), List.forall_mem_cons.mpr ⟨k_inv (M := mX1_countAt) (T := TX1) (N := 10) rfl rfl (show decode cX6_pass 99 = .ok (.invokevirtual 150, 3) by decide +kernel) rfl (by decide) (by decide +kernel) (by decide) (gw2 140 rfl rfl) (gw2 137 rfl rfl) (gw2 138 rfl rfl) (gw2 139 rfl rfl) (gw1 2 rfl rfl) (fun _ h => absurd h List.not_mem_nil), List.forall_mem_cons.mpr ⟨k_ild_n (show decode cX6_pass 102 = .ok (.iload_n 2, 1) by decide +kernel) rfl, List.forall_mem_cons.mpr ⟨k_isub (show decode cX6_pass 103 = .ok (.isub, 1) by decide +kernel), List.forall_mem_cons.mpr ⟨k_iret (show decode cX6_pass 104 = .ok (.ireturn, 1) by decide +kernel), fun _ h => absurd h List.not_mem_nil⟩⟩⟩⟩⟩⟩⟩⟩⟩⟩⟩⟩⟩⟩⟩⟩⟩⟩⟩⟩⟩⟩⟩⟩⟩⟩⟩⟩⟩⟩⟩⟩⟩⟩⟩⟩⟩⟩⟩⟩⟩⟩⟩⟩⟩⟩⟩⟩⟩
set_option maxRecDepth 20000 in
theorem okX6_aircraft : ∀ q ∈ jcX6_aircraft, JOk mtab cX6_aircraft RX6 ("aircraft", []) 3 none q.1 q.2 := by
  unfold jcX6_aircraft
  exact List.forall_mem_cons.mpr ⟨k_ald_n (show decode cX6_aircraft 0 = .ok (.aload_n 0, 1) by decide +kernel) rfl, List.forall_mem_cons.mpr ⟨k_getf (C := RX6) (T := TX6) (N := 5) (show decode cX6_aircraft 1 = .ok (.getfield 10, 3) by decide +kernel) rfl inX6 (by decide) (gw1 239 rfl rfl) (by decide), List.forall_mem_cons.mpr ⟨k_ild_n (show decode cX6_aircraft 4 = .ok (.iload_n 1, 1) by decide +kernel) rfl, List.forall_mem_cons.mpr ⟨k_inv (M := mX1_hasAircraft) (T := TX1) (N := 10) rfl rfl (show decode cX6_aircraft 5 = .ok (.invokevirtual 122, 3) by decide +kernel) rfl (by decide) (by decide +kernel) (by decide) (gw3 117 rfl rfl) (gw3 114 rfl rfl) (gw3 115 rfl rfl) (gw3 116 rfl rfl) (gw1 2 rfl rfl) (fun _ h => absurd h List.not_mem_nil), List.forall_mem_cons.mpr ⟨k_if_ne (show decode cX6_aircraft 8 = .ok (.ifCond .ne 13, 3) by decide +kernel) (by decide), List.forall_mem_cons.mpr ⟨k_thr (text := "no such aircraft") (by decide +kernel) (gw3 57 rfl rfl) (gw1 13 rfl rfl) (by decide +kernel) th_w63 (show decode cX6_aircraft 11 = .ok (.new 59, 3) by decide +kernel) (show decode cX6_aircraft 14 = .ok (.dup, 1) by decide +kernel) (show decode cX6_aircraft 15 = .ok (.ldc 125, 2) by decide +kernel) (show decode cX6_aircraft 17 = .ok (.invokespecial 63, 3) by decide +kernel) (show decode cX6_aircraft 20 = .ok (.athrow, 1) by decide +kernel), List.forall_mem_cons.mpr ⟨k_ild_n (show decode cX6_aircraft 21 = .ok (.iload_n 2, 1) by decide +kernel) rfl, List.forall_mem_cons.mpr ⟨k_iconst (show decode cX6_aircraft 22 = .ok (.iconst 0, 1) by decide +kernel) (by decide +kernel), List.forall_mem_cons.mpr ⟨k_bipush (show decode cX6_aircraft 23 = .ok (.bipush 9, 2) by decide +kernel) (by decide +kernel), List.forall_mem_cons.mpr ⟨k_ins (M := mX6_isOutside) rfl rfl (show decode cX6_aircraft 25 = .ok (.invokestatic 34, 3) by decide +kernel) (by decide +kernel) (by decide) (gw2 21 rfl rfl) (gw2 19 rfl rfl) (gw2 20 rfl rfl) (gw1 1 rfl rfl), List.forall_mem_cons.mpr ⟨k_if_eq (show decode cX6_aircraft 28 = .ok (.ifCond .eq 13, 3) by decide +kernel) (by decide), List.forall_mem_cons.mpr ⟨k_thr (text := "what out of range") (by decide +kernel) (gw2 22 rfl rfl) (gw1 11 rfl rfl) (by decide +kernel) th_w42 (show decode cX6_aircraft 31 = .ok (.new 38, 3) by decide +kernel) (show decode cX6_aircraft 34 = .ok (.dup, 1) by decide +kernel) (show decode cX6_aircraft 35 = .ok (.ldc 157, 2) by decide +kernel) (show decode cX6_aircraft 37 = .ok (.invokespecial 42, 3) by decide +kernel) (show decode cX6_aircraft 40 = .ok (.athrow, 1) by decide +kernel), List.forall_mem_cons.mpr ⟨k_ald_n (show decode cX6_aircraft 41 = .ok (.aload_n 0, 1) by decide +kernel) rfl, List.forall_mem_cons.mpr ⟨k_getf (C := RX6) (T := TX6) (N := 5) (show decode cX6_aircraft 42 = .ok (.getfield 10, 3) by decide +kernel) rfl inX6 (by decide) (gw1 239 rfl rfl) (by decide), List.forall_mem_cons.mpr ⟨k_getf (C := RX1) (T := TX1) (N := 10) (show decode cX6_aircraft 45 = .ok (.getfield 127, 3) by decide +kernel) rfl inX1 (by decide) (gw1 174 rfl rfl) (by decide), List.forall_mem_cons.mpr ⟨k_ild_n (show decode cX6_aircraft 48 = .ok (.iload_n 1, 1) by decide +kernel) rfl, List.forall_mem_cons.mpr ⟨k_aald (show decode cX6_aircraft 49 = .ok (.aaload, 1) by decide +kernel) (by decide) rfl, List.forall_mem_cons.mpr ⟨k_ild_n (show decode cX6_aircraft 50 = .ok (.iload_n 2, 1) by decide +kernel) rfl, List.forall_mem_cons.mpr ⟨k_inv (M := mX0_answer) (T := TX0) (N := 10) rfl rfl (show decode cX6_aircraft 51 = .ok (.invokevirtual 159, 3) by decide +kernel) rfl (by decide) (by decide +kernel) (by decide) (gw3 122 rfl rfl) (gw3 119 rfl rfl) (gw3 120 rfl rfl) (gw3 121 rfl rfl) (gw1 6 rfl rfl) (fun _ h => absurd h List.not_mem_nil), List.forall_mem_cons.mpr ⟨k_iret (show decode cX6_aircraft 54 = .ok (.ireturn, 1) by decide +kernel), fun _ h => absurd h List.not_mem_nil⟩⟩⟩⟩⟩⟩⟩⟩⟩⟩⟩⟩⟩⟩⟩⟩⟩⟩⟩⟩
set_option maxRecDepth 20000 in
theorem okX6_stand : ∀ q ∈ jcX6_stand, JOk mtab cX6_stand RX6 ("stand", []) 3 none q.1 q.2 := by
  unfold jcX6_stand
  exact List.forall_mem_cons.mpr ⟨k_ald_n (show decode cX6_stand 0 = .ok (.aload_n 0, 1) by decide +kernel) rfl, List.forall_mem_cons.mpr ⟨k_getf (C := RX6) (T := TX6) (N := 5) (show decode cX6_stand 1 = .ok (.getfield 10, 3) by decide +kernel) rfl inX6 (by decide) (gw1 239 rfl rfl) (by decide), List.forall_mem_cons.mpr ⟨k_ild_n (show decode cX6_stand 4 = .ok (.iload_n 1, 1) by decide +kernel) rfl, List.forall_mem_cons.mpr ⟨k_inv (M := mX1_hasStand) (T := TX1) (N := 10) rfl rfl (show decode cX6_stand 5 = .ok (.invokevirtual 55, 3) by decide +kernel) rfl (by decide) (by decide +kernel) (by decide) (gw3 56 rfl rfl) (gw3 53 rfl rfl) (gw3 54 rfl rfl) (gw3 55 rfl rfl) (gw1 2 rfl rfl) (fun _ h => absurd h List.not_mem_nil), List.forall_mem_cons.mpr ⟨k_if_ne (show decode cX6_stand 8 = .ok (.ifCond .ne 13, 3) by decide +kernel) (by decide), List.forall_mem_cons.mpr ⟨k_thr (text := "no such stand") (by decide +kernel) (gw3 57 rfl rfl) (gw1 13 rfl rfl) (by decide +kernel) th_w63 (show decode cX6_stand 11 = .ok (.new 59, 3) by decide +kernel) (show decode cX6_stand 14 = .ok (.dup, 1) by decide +kernel) (show decode cX6_stand 15 = .ok (.ldc 61, 2) by decide +kernel) (show decode cX6_stand 17 = .ok (.invokespecial 63, 3) by decide +kernel) (show decode cX6_stand 20 = .ok (.athrow, 1) by decide +kernel), List.forall_mem_cons.mpr ⟨k_ild_n (show decode cX6_stand 21 = .ok (.iload_n 2, 1) by decide +kernel) rfl, List.forall_mem_cons.mpr ⟨k_iconst (show decode cX6_stand 22 = .ok (.iconst 0, 1) by decide +kernel) (by decide +kernel), List.forall_mem_cons.mpr ⟨k_iconst (show decode cX6_stand 23 = .ok (.iconst 3, 1) by decide +kernel) (by decide +kernel), List.forall_mem_cons.mpr ⟨k_ins (M := mX6_isOutside) rfl rfl (show decode cX6_stand 24 = .ok (.invokestatic 34, 3) by decide +kernel) (by decide +kernel) (by decide) (gw2 21 rfl rfl) (gw2 19 rfl rfl) (gw2 20 rfl rfl) (gw1 1 rfl rfl), List.forall_mem_cons.mpr ⟨k_if_eq (show decode cX6_stand 27 = .ok (.ifCond .eq 13, 3) by decide +kernel) (by decide), List.forall_mem_cons.mpr ⟨k_thr (text := "what out of range") (by decide +kernel) (gw2 22 rfl rfl) (gw1 11 rfl rfl) (by decide +kernel) th_w42 (show decode cX6_stand 30 = .ok (.new 38, 3) by decide +kernel) (show decode cX6_stand 33 = .ok (.dup, 1) by decide +kernel) (show decode cX6_stand 34 = .ok (.ldc 157, 2) by decide +kernel) (show decode cX6_stand 36 = .ok (.invokespecial 42, 3) by decide +kernel) (show decode cX6_stand 39 = .ok (.athrow, 1) by decide +kernel), List.forall_mem_cons.mpr ⟨k_ald_n (show decode cX6_stand 40 = .ok (.aload_n 0, 1) by decide +kernel) rfl, List.forall_mem_cons.mpr ⟨k_getf (C := RX6) (T := TX6) (N := 5) (show decode cX6_stand 41 = .ok (.getfield 10, 3) by decide +kernel) rfl inX6 (by decide) (gw1 239 rfl rfl) (by decide), List.forall_mem_cons.mpr ⟨k_ild_n (show decode cX6_stand 44 = .ok (.iload_n 1, 1) by decide +kernel) rfl, List.forall_mem_cons.mpr ⟨k_ild_n (show decode cX6_stand 45 = .ok (.iload_n 2, 1) by decide +kernel) rfl, List.forall_mem_cons.mpr ⟨k_inv (M := mX1_standAnswer) (T := TX1) (N := 10) rfl rfl (show decode cX6_stand 46 = .ok (.invokevirtual 162, 3) by decide +kernel) rfl (by decide) (by decide +kernel) (by decide) (gw3 155 rfl rfl) (gw3 152 rfl rfl) (gw3 153 rfl rfl) (gw3 154 rfl rfl) (gw1 2 rfl rfl) (fun _ h => absurd h List.not_mem_nil), List.forall_mem_cons.mpr ⟨k_iret (show decode cX6_stand 49 = .ok (.ireturn, 1) by decide +kernel), fun _ h => absurd h List.not_mem_nil⟩⟩⟩⟩⟩⟩⟩⟩⟩⟩⟩⟩⟩⟩⟩⟩⟩⟩
set_option maxRecDepth 20000 in
theorem okX6_tug : ∀ q ∈ jcX6_tug, JOk mtab cX6_tug RX6 ("tug", []) 3 none q.1 q.2 := by
  unfold jcX6_tug
  exact List.forall_mem_cons.mpr ⟨k_ald_n (show decode cX6_tug 0 = .ok (.aload_n 0, 1) by decide +kernel) rfl, List.forall_mem_cons.mpr ⟨k_getf (C := RX6) (T := TX6) (N := 5) (show decode cX6_tug 1 = .ok (.getfield 10, 3) by decide +kernel) rfl inX6 (by decide) (gw1 239 rfl rfl) (by decide), List.forall_mem_cons.mpr ⟨k_ild_n (show decode cX6_tug 4 = .ok (.iload_n 1, 1) by decide +kernel) rfl, List.forall_mem_cons.mpr ⟨k_inv (M := mX1_hasTug) (T := TX1) (N := 10) rfl rfl (show decode cX6_tug 5 = .ok (.invokevirtual 75, 3) by decide +kernel) rfl (by decide) (by decide +kernel) (by decide) (gw3 81 rfl rfl) (gw3 78 rfl rfl) (gw3 79 rfl rfl) (gw3 80 rfl rfl) (gw1 2 rfl rfl) (fun _ h => absurd h List.not_mem_nil), List.forall_mem_cons.mpr ⟨k_if_ne (show decode cX6_tug 8 = .ok (.ifCond .ne 13, 3) by decide +kernel) (by decide), List.forall_mem_cons.mpr ⟨k_thr (text := "no such tug") (by decide +kernel) (gw3 57 rfl rfl) (gw1 13 rfl rfl) (by decide +kernel) th_w63 (show decode cX6_tug 11 = .ok (.new 59, 3) by decide +kernel) (show decode cX6_tug 14 = .ok (.dup, 1) by decide +kernel) (show decode cX6_tug 15 = .ok (.ldc 78, 2) by decide +kernel) (show decode cX6_tug 17 = .ok (.invokespecial 63, 3) by decide +kernel) (show decode cX6_tug 20 = .ok (.athrow, 1) by decide +kernel), List.forall_mem_cons.mpr ⟨k_ild_n (show decode cX6_tug 21 = .ok (.iload_n 2, 1) by decide +kernel) rfl, List.forall_mem_cons.mpr ⟨k_iconst (show decode cX6_tug 22 = .ok (.iconst 0, 1) by decide +kernel) (by decide +kernel), List.forall_mem_cons.mpr ⟨k_iconst (show decode cX6_tug 23 = .ok (.iconst 4, 1) by decide +kernel) (by decide +kernel), List.forall_mem_cons.mpr ⟨k_ins (M := mX6_isOutside) rfl rfl (show decode cX6_tug 24 = .ok (.invokestatic 34, 3) by decide +kernel) (by decide +kernel) (by decide) (gw2 21 rfl rfl) (gw2 19 rfl rfl) (gw2 20 rfl rfl) (gw1 1 rfl rfl), List.forall_mem_cons.mpr ⟨k_if_eq (show decode cX6_tug 27 = .ok (.ifCond .eq 13, 3) by decide +kernel) (by decide), List.forall_mem_cons.mpr ⟨k_thr (text := "what out of range") (by decide +kernel) (gw2 22 rfl rfl) (gw1 11 rfl rfl) (by decide +kernel) th_w42 (show decode cX6_tug 30 = .ok (.new 38, 3) by decide +kernel) (show decode cX6_tug 33 = .ok (.dup, 1) by decide +kernel) (show decode cX6_tug 34 = .ok (.ldc 157, 2) by decide +kernel) (show decode cX6_tug 36 = .ok (.invokespecial 42, 3) by decide +kernel) (show decode cX6_tug 39 = .ok (.athrow, 1) by decide +kernel), List.forall_mem_cons.mpr ⟨k_ald_n (show decode cX6_tug 40 = .ok (.aload_n 0, 1) by decide +kernel) rfl, List.forall_mem_cons.mpr ⟨k_getf (C := RX6) (T := TX6) (N := 5) (show decode cX6_tug 41 = .ok (.getfield 10, 3) by decide +kernel) rfl inX6 (by decide) (gw1 239 rfl rfl) (by decide), List.forall_mem_cons.mpr ⟨k_getf (C := RX1) (T := TX1) (N := 10) (show decode cX6_tug 44 = .ok (.getfield 82, 3) by decide +kernel) rfl inX1 (by decide) (gw1 172 rfl rfl) (by decide), List.forall_mem_cons.mpr ⟨k_ild_n (show decode cX6_tug 47 = .ok (.iload_n 1, 1) by decide +kernel) rfl, List.forall_mem_cons.mpr ⟨k_aald (show decode cX6_tug 48 = .ok (.aaload, 1) by decide +kernel) (by decide) rfl, List.forall_mem_cons.mpr ⟨k_ild_n (show decode cX6_tug 49 = .ok (.iload_n 2, 1) by decide +kernel) rfl, List.forall_mem_cons.mpr ⟨k_inv (M := mX5_answer) (T := TX5) (N := 5) rfl rfl (show decode cX6_tug 50 = .ok (.invokevirtual 165, 3) by decide +kernel) rfl (by decide) (by decide +kernel) (by decide) (gw3 163 rfl rfl) (gw3 160 rfl rfl) (gw3 161 rfl rfl) (gw3 162 rfl rfl) (gw1 5 rfl rfl) (fun _ h => absurd h List.not_mem_nil), List.forall_mem_cons.mpr ⟨k_iret (show decode cX6_tug 53 = .ok (.ireturn, 1) by decide +kernel), fun _ h => absurd h List.not_mem_nil⟩⟩⟩⟩⟩⟩⟩⟩⟩⟩⟩⟩⟩⟩⟩⟩⟩⟩⟩⟩
set_option maxRecDepth 20000 in
theorem okX6_value : ∀ q ∈ jcX6_value, JOk mtab cX6_value RX6 ("value", []) 2 none q.1 q.2 := by
  unfold jcX6_value
  exact List.forall_mem_cons.mpr ⟨k_ild_n (show decode cX6_value 0 = .ok (.iload_n 1, 1) by decide +kernel) rfl, List.forall_mem_cons.mpr ⟨k_iconst (show decode cX6_value 1 = .ok (.iconst 0, 1) by decide +kernel) (by decide +kernel), List.forall_mem_cons.mpr ⟨k_bipush (show decode cX6_value 2 = .ok (.bipush 15, 2) by decide +kernel) (by decide +kernel), List.forall_mem_cons.mpr ⟨k_ins (M := mX6_isOutside) rfl rfl (show decode cX6_value 4 = .ok (.invokestatic 34, 3) by decide +kernel) (by decide +kernel) (by decide) (gw2 21 rfl rfl) (gw2 19 rfl rfl) (gw2 20 rfl rfl) (gw1 1 rfl rfl), List.forall_mem_cons.mpr ⟨k_if_eq (show decode cX6_value 7 = .ok (.ifCond .eq 13, 3) by decide +kernel) (by decide), List.forall_mem_cons.mpr ⟨k_thr (text := "what out of range") (by decide +kernel) (gw2 22 rfl rfl) (gw1 11 rfl rfl) (by decide +kernel) th_w42 (show decode cX6_value 10 = .ok (.new 38, 3) by decide +kernel) (show decode cX6_value 13 = .ok (.dup, 1) by decide +kernel) (show decode cX6_value 14 = .ok (.ldc 157, 2) by decide +kernel) (show decode cX6_value 16 = .ok (.invokespecial 42, 3) by decide +kernel) (show decode cX6_value 19 = .ok (.athrow, 1) by decide +kernel), List.forall_mem_cons.mpr ⟨k_ald_n (show decode cX6_value 20 = .ok (.aload_n 0, 1) by decide +kernel) rfl, List.forall_mem_cons.mpr ⟨k_getf (C := RX6) (T := TX6) (N := 5) (show decode cX6_value 21 = .ok (.getfield 10, 3) by decide +kernel) rfl inX6 (by decide) (gw1 239 rfl rfl) (by decide), List.forall_mem_cons.mpr ⟨k_ild_n (show decode cX6_value 24 = .ok (.iload_n 1, 1) by decide +kernel) rfl, List.forall_mem_cons.mpr ⟨k_inv (M := mX1_answer) (T := TX1) (N := 10) rfl rfl (show decode cX6_value 25 = .ok (.invokevirtual 166, 3) by decide +kernel) rfl (by decide) (by decide +kernel) (by decide) (gw2 235 rfl rfl) (gw2 232 rfl rfl) (gw2 233 rfl rfl) (gw2 234 rfl rfl) (gw1 2 rfl rfl) (fun _ h => absurd h List.not_mem_nil), List.forall_mem_cons.mpr ⟨k_iret (show decode cX6_value 28 = .ok (.ireturn, 1) by decide +kernel), fun _ h => absurd h List.not_mem_nil⟩⟩⟩⟩⟩⟩⟩⟩⟩⟩⟩
set_option maxRecDepth 20000 in
theorem okX6_why : ∀ q ∈ jcX6_why, JOk mtab cX6_why RX6 ("why", []) 2 none q.1 q.2 := by
  unfold jcX6_why
  exact List.forall_mem_cons.mpr ⟨k_ald_n (show decode cX6_why 0 = .ok (.aload_n 0, 1) by decide +kernel) rfl, List.forall_mem_cons.mpr ⟨k_getf (C := RX6) (T := TX6) (N := 5) (show decode cX6_why 1 = .ok (.getfield 10, 3) by decide +kernel) rfl inX6 (by decide) (gw1 239 rfl rfl) (by decide), List.forall_mem_cons.mpr ⟨k_ild_n (show decode cX6_why 4 = .ok (.iload_n 1, 1) by decide +kernel) rfl, List.forall_mem_cons.mpr ⟨k_inv (M := mX1_hasAircraft) (T := TX1) (N := 10) rfl rfl (show decode cX6_why 5 = .ok (.invokevirtual 122, 3) by decide +kernel) rfl (by decide) (by decide +kernel) (by decide) (gw3 117 rfl rfl) (gw3 114 rfl rfl) (gw3 115 rfl rfl) (gw3 116 rfl rfl) (gw1 2 rfl rfl) (fun _ h => absurd h List.not_mem_nil), List.forall_mem_cons.mpr ⟨k_if_ne (show decode cX6_why 8 = .ok (.ifCond .ne 13, 3) by decide +kernel) (by decide), List.forall_mem_cons.mpr ⟨k_thr (text := "no such aircraft") (by decide +kernel) (gw3 57 rfl rfl) (gw1 13 rfl rfl) (by decide +kernel) th_w63 (show decode cX6_why 11 = .ok (.new 59, 3) by decide +kernel) (show decode cX6_why 14 = .ok (.dup, 1) by decide +kernel) (show decode cX6_why 15 = .ok (.ldc 125, 2) by decide +kernel) (show decode cX6_why 17 = .ok (.invokespecial 63, 3) by decide +kernel) (show decode cX6_why 20 = .ok (.athrow, 1) by decide +kernel), List.forall_mem_cons.mpr ⟨k_ald_n (show decode cX6_why 21 = .ok (.aload_n 0, 1) by decide +kernel) rfl, List.forall_mem_cons.mpr ⟨k_getf (C := RX6) (T := TX6) (N := 5) (show decode cX6_why 22 = .ok (.getfield 10, 3) by decide +kernel) rfl inX6 (by decide) (gw1 239 rfl rfl) (by decide), List.forall_mem_cons.mpr ⟨k_ild_n (show decode cX6_why 25 = .ok (.iload_n 1, 1) by decide +kernel) rfl, List.forall_mem_cons.mpr ⟨k_inv (M := mX1_reason) (T := TX1) (N := 10) rfl rfl (show decode cX6_why 26 = .ok (.invokevirtual 181, 3) by decide +kernel) rfl (by decide) (by decide +kernel) (by decide) (gw2 188 rfl rfl) (gw3 143 rfl rfl) (gw2 186 rfl rfl) (gw2 187 rfl rfl) (gw1 2 rfl rfl) (fun _ h => absurd h List.not_mem_nil), List.forall_mem_cons.mpr ⟨k_iret (show decode cX6_why 29 = .ok (.ireturn, 1) by decide +kernel), fun _ h => absurd h List.not_mem_nil⟩⟩⟩⟩⟩⟩⟩⟩⟩⟩⟩
set_option maxRecDepth 20000 in
theorem okX6_delayOf : ∀ q ∈ jcX6_delayOf, JOk mtab cX6_delayOf RX6 ("delayOf", []) 5 none q.1 q.2 := by
  unfold jcX6_delayOf
  exact List.forall_mem_cons.mpr ⟨k_ald_n (show decode cX6_delayOf 0 = .ok (.aload_n 0, 1) by decide +kernel) rfl, List.forall_mem_cons.mpr ⟨k_getf (C := RX6) (T := TX6) (N := 5) (show decode cX6_delayOf 1 = .ok (.getfield 10, 3) by decide +kernel) rfl inX6 (by decide) (gw1 239 rfl rfl) (by decide), List.forall_mem_cons.mpr ⟨k_ild_n (show decode cX6_delayOf 4 = .ok (.iload_n 1, 1) by decide +kernel) rfl, List.forall_mem_cons.mpr ⟨k_inv (M := mX1_hasAircraft) (T := TX1) (N := 10) rfl rfl (show decode cX6_delayOf 5 = .ok (.invokevirtual 122, 3) by decide +kernel) rfl (by decide) (by decide +kernel) (by decide) (gw3 117 rfl rfl) (gw3 114 rfl rfl) (gw3 115 rfl rfl) (gw3 116 rfl rfl) (gw1 2 rfl rfl) (fun _ h => absurd h List.not_mem_nil), List.forall_mem_cons.mpr ⟨k_if_ne (show decode cX6_delayOf 8 = .ok (.ifCond .ne 13, 3) by decide +kernel) (by decide), List.forall_mem_cons.mpr ⟨k_thr (text := "no such aircraft") (by decide +kernel) (gw3 57 rfl rfl) (gw1 13 rfl rfl) (by decide +kernel) th_w63 (show decode cX6_delayOf 11 = .ok (.new 59, 3) by decide +kernel) (show decode cX6_delayOf 14 = .ok (.dup, 1) by decide +kernel) (show decode cX6_delayOf 15 = .ok (.ldc 125, 2) by decide +kernel) (show decode cX6_delayOf 17 = .ok (.invokespecial 63, 3) by decide +kernel) (show decode cX6_delayOf 20 = .ok (.athrow, 1) by decide +kernel), List.forall_mem_cons.mpr ⟨k_ald_n (show decode cX6_delayOf 21 = .ok (.aload_n 0, 1) by decide +kernel) rfl, List.forall_mem_cons.mpr ⟨k_getf (C := RX6) (T := TX6) (N := 5) (show decode cX6_delayOf 22 = .ok (.getfield 16, 3) by decide +kernel) rfl inX6 (by decide) (gw2 0 rfl rfl) (by decide), List.forall_mem_cons.mpr ⟨k_ald_n (show decode cX6_delayOf 25 = .ok (.aload_n 0, 1) by decide +kernel) rfl, List.forall_mem_cons.mpr ⟨k_getf (C := RX6) (T := TX6) (N := 5) (show decode cX6_delayOf 26 = .ok (.getfield 10, 3) by decide +kernel) rfl inX6 (by decide) (gw1 239 rfl rfl) (by decide), List.forall_mem_cons.mpr ⟨k_inv (M := mX1_copyFrom) (T := TX1) (N := 10) rfl rfl (show decode cX6_delayOf 29 = .ok (.invokevirtual 184, 3) by decide +kernel) rfl (by decide) (by decide +kernel) (by decide) (gw2 117 rfl rfl) (gw2 114 rfl rfl) (gw2 115 rfl rfl) (gw2 116 rfl rfl) (gw1 2 rfl rfl) (fun _ h => absurd h List.not_mem_nil), List.forall_mem_cons.mpr ⟨k_ald_n (show decode cX6_delayOf 32 = .ok (.aload_n 0, 1) by decide +kernel) rfl, List.forall_mem_cons.mpr ⟨k_getf (C := RX6) (T := TX6) (N := 5) (show decode cX6_delayOf 33 = .ok (.getfield 16, 3) by decide +kernel) rfl inX6 (by decide) (gw2 0 rfl rfl) (by decide), List.forall_mem_cons.mpr ⟨k_getf (C := RX1) (T := TX1) (N := 10) (show decode cX6_delayOf 36 = .ok (.getfield 127, 3) by decide +kernel) rfl inX1 (by decide) (gw1 174 rfl rfl) (by decide), List.forall_mem_cons.mpr ⟨k_ild_n (show decode cX6_delayOf 39 = .ok (.iload_n 1, 1) by decide +kernel) rfl, List.forall_mem_cons.mpr ⟨k_aald (show decode cX6_delayOf 40 = .ok (.aaload, 1) by decide +kernel) (by decide) rfl, List.forall_mem_cons.mpr ⟨k_ast_n (show decode cX6_delayOf 41 = .ok (.astore_n 2, 1) by decide +kernel) rfl (by decide), List.forall_mem_cons.mpr ⟨k_iconst (show decode cX6_delayOf 42 = .ok (.iconst 0, 1) by decide +kernel) (by decide +kernel), List.forall_mem_cons.mpr ⟨k_ist_n (show decode cX6_delayOf 43 = .ok (.istore_n 3, 1) by decide +kernel) rfl (by decide), List.forall_mem_cons.mpr ⟨k_iconst (show decode cX6_delayOf 44 = .ok (.iconst 0, 1) by decide +kernel) (by decide +kernel), List.forall_mem_cons.mpr ⟨k_ist (show decode cX6_delayOf 45 = .ok (.istore 4, 2) by decide +kernel) (by decide), List.forall_mem_cons.mpr ⟨k_ild (show decode cX6_delayOf 47 = .ok (.iload 4, 2) by decide +kernel), List.forall_mem_cons.mpr ⟨k_sipush (show decode cX6_delayOf 49 = .ok (.sipush 3000, 3) by decide +kernel) (by decide +kernel), List.forall_mem_cons.mpr ⟨k_icmp_ge (show decode cX6_delayOf 52 = .ok (.if_icmp .ge 39, 3) by decide +kernel) (by decide), List.forall_mem_cons.mpr ⟨k_ild_n (show decode cX6_delayOf 55 = .ok (.iload_n 3, 1) by decide +kernel) rfl, List.forall_mem_cons.mpr ⟨k_sipush (show decode cX6_delayOf 56 = .ok (.sipush 3000, 3) by decide +kernel) (by decide +kernel), List.forall_mem_cons.mpr ⟨k_icmp_ge (show decode cX6_delayOf 59 = .ok (.if_icmp .ge 32, 3) by decide +kernel) (by decide), List.forall_mem_cons.mpr ⟨k_ald_n (show decode cX6_delayOf 62 = .ok (.aload_n 2, 1) by decide +kernel) rfl, List.forall_mem_cons.mpr ⟨k_getf (C := RX0) (T := TX0) (N := 10) (show decode cX6_delayOf 63 = .ok (.getfield 188, 3) by decide +kernel) rfl inX0 (by decide) (gw1 126 rfl rfl) (by decide), List.forall_mem_cons.mpr ⟨k_iconst (show decode cX6_delayOf 66 = .ok (.iconst (-1), 1) by decide +kernel) (by decide +kernel), List.forall_mem_cons.mpr ⟨k_icmp_ne (show decode cX6_delayOf 67 = .ok (.if_icmp .ne 24, 3) by decide +kernel) (by decide), List.forall_mem_cons.mpr ⟨k_ild_n (show decode cX6_delayOf 70 = .ok (.iload_n 3, 1) by decide +kernel) rfl, List.forall_mem_cons.mpr ⟨k_ald_n (show decode cX6_delayOf 71 = .ok (.aload_n 0, 1) by decide +kernel) rfl, List.forall_mem_cons.mpr ⟨k_getf (C := RX6) (T := TX6) (N := 5) (show decode cX6_delayOf 72 = .ok (.getfield 16, 3) by decide +kernel) rfl inX6 (by decide) (gw2 0 rfl rfl) (by decide), List.forall_mem_cons.mpr ⟨k_sipush (show decode cX6_delayOf 75 = .ok (.sipush 3000, 3) by decide +kernel) (by decide +kernel), List.forall_mem_cons.mpr ⟨k_ild_n (show decode cX6_delayOf 78 = .ok (.iload_n 3, 1) by decide +kernel) rfl, List.forall_mem_cons.mpr ⟨k_isub (show decode cX6_delayOf 79 = .ok (.isub, 1) by decide +kernel), List.forall_mem_cons.mpr ⟨k_inv (M := mX1_passSome) (T := TX1) (N := 10) rfl rfl (show decode cX6_delayOf 80 = .ok (.invokevirtual 154, 3) by decide +kernel) rfl (by decide) (by decide +kernel) (by decide) (gw2 144 rfl rfl) (gw2 141 rfl rfl) (gw2 142 rfl rfl) (gw2 143 rfl rfl) (gw1 2 rfl rfl) (fun _ h => absurd h List.not_mem_nil), List.forall_mem_cons.mpr ⟨k_iadd (show decode cX6_delayOf 83 = .ok (.iadd, 1) by decide +kernel), List.forall_mem_cons.mpr ⟨k_ist_n (show decode cX6_delayOf 84 = .ok (.istore_n 3, 1) by decide +kernel) rfl (by decide), List.forall_mem_cons.mpr ⟨k_iinc (show decode cX6_delayOf 85 = .ok (.iinc 4 1, 3) by decide +kernel) (by decide +kernel) (by decide), List.forall_mem_cons.mpr ⟨k_goto (show decode cX6_delayOf 88 = .ok (.goto (-41), 3) by decide +kernel) (by decide), List.forall_mem_cons.mpr ⟨k_ald_n (show decode cX6_delayOf 91 = .ok (.aload_n 2, 1) by decide +kernel) rfl, List.forall_mem_cons.mpr ⟨k_getf (C := RX0) (T := TX0) (N := 10) (show decode cX6_delayOf 92 = .ok (.getfield 188, 3) by decide +kernel) rfl inX0 (by decide) (gw1 126 rfl rfl) (by decide), List.forall_mem_cons.mpr ⟨k_iret (show decode cX6_delayOf 95 = .ok (.ireturn, 1) by decide +kernel), fun _ h => absurd h List.not_mem_nil⟩⟩⟩⟩⟩⟩⟩⟩⟩⟩⟩⟩⟩⟩⟩⟩⟩⟩⟩⟩⟩⟩⟩⟩⟩⟩⟩⟩⟩⟩⟩⟩⟩⟩⟩⟩⟩⟩⟩⟩⟩⟩⟩⟩⟩
set_option maxRecDepth 20000 in
theorem okX6_minutesToAll : ∀ q ∈ jcX6_minutesToAll, JOk mtab cX6_minutesToAll RX6 ("minutesToAll", []) 1 none q.1 q.2 := by
  unfold jcX6_minutesToAll
  exact List.forall_mem_cons.mpr ⟨k_ald_n (show decode cX6_minutesToAll 0 = .ok (.aload_n 0, 1) by decide +kernel) rfl, List.forall_mem_cons.mpr ⟨k_getf (C := RX6) (T := TX6) (N := 5) (show decode cX6_minutesToAll 1 = .ok (.getfield 16, 3) by decide +kernel) rfl inX6 (by decide) (gw2 0 rfl rfl) (by decide), List.forall_mem_cons.mpr ⟨k_ald_n (show decode cX6_minutesToAll 4 = .ok (.aload_n 0, 1) by decide +kernel) rfl, List.forall_mem_cons.mpr ⟨k_getf (C := RX6) (T := TX6) (N := 5) (show decode cX6_minutesToAll 5 = .ok (.getfield 10, 3) by decide +kernel) rfl inX6 (by decide) (gw1 239 rfl rfl) (by decide), List.forall_mem_cons.mpr ⟨k_inv (M := mX1_copyFrom) (T := TX1) (N := 10) rfl rfl (show decode cX6_minutesToAll 8 = .ok (.invokevirtual 184, 3) by decide +kernel) rfl (by decide) (by decide +kernel) (by decide) (gw2 117 rfl rfl) (gw2 114 rfl rfl) (gw2 115 rfl rfl) (gw2 116 rfl rfl) (gw1 2 rfl rfl) (fun _ h => absurd h List.not_mem_nil), List.forall_mem_cons.mpr ⟨k_ald_n (show decode cX6_minutesToAll 11 = .ok (.aload_n 0, 1) by decide +kernel) rfl, List.forall_mem_cons.mpr ⟨k_getf (C := RX6) (T := TX6) (N := 5) (show decode cX6_minutesToAll 12 = .ok (.getfield 16, 3) by decide +kernel) rfl inX6 (by decide) (gw2 0 rfl rfl) (by decide), List.forall_mem_cons.mpr ⟨k_inv (M := mX1_passUntilAllGone) (T := TX1) (N := 10) rfl rfl (show decode cX6_minutesToAll 15 = .ok (.invokevirtual 191, 3) by decide +kernel) rfl (by decide) (by decide +kernel) (by decide) (gw3 21 rfl rfl) (gw3 18 rfl rfl) (gw3 19 rfl rfl) (gw3 20 rfl rfl) (gw1 2 rfl rfl) (fun _ h => absurd h List.not_mem_nil), List.forall_mem_cons.mpr ⟨k_iret (show decode cX6_minutesToAll 18 = .ok (.ireturn, 1) by decide +kernel), fun _ h => absurd h List.not_mem_nil⟩⟩⟩⟩⟩⟩⟩⟩⟩
set_option maxRecDepth 20000 in
theorem okX6_used : ∀ q ∈ jcX6_used, JOk mtab cX6_used RX6 ("used", []) 3 none q.1 q.2 := by
  unfold jcX6_used
  exact List.forall_mem_cons.mpr ⟨k_ald_n (show decode cX6_used 0 = .ok (.aload_n 0, 1) by decide +kernel) rfl, List.forall_mem_cons.mpr ⟨k_getf (C := RX6) (T := TX6) (N := 5) (show decode cX6_used 1 = .ok (.getfield 10, 3) by decide +kernel) rfl inX6 (by decide) (gw1 239 rfl rfl) (by decide), List.forall_mem_cons.mpr ⟨k_getf (C := RX1) (T := TX1) (N := 10) (show decode cX6_used 4 = .ok (.getfield 45, 3) by decide +kernel) rfl inX1 (by decide) (gw1 181 rfl rfl) (by decide), List.forall_mem_cons.mpr ⟨k_if_ne (show decode cX6_used 7 = .ok (.ifCond .ne 5, 3) by decide +kernel) (by decide), List.forall_mem_cons.mpr ⟨k_dconst0 (show decode cX6_used 10 = .ok (.dconst 0, 1) by decide +kernel), List.forall_mem_cons.mpr ⟨k_dret (show decode cX6_used 11 = .ok (.dreturn, 1) by decide +kernel), List.forall_mem_cons.mpr ⟨k_iconst (show decode cX6_used 12 = .ok (.iconst 0, 1) by decide +kernel) (by decide +kernel), List.forall_mem_cons.mpr ⟨k_ist_n (show decode cX6_used 13 = .ok (.istore_n 1, 1) by decide +kernel) rfl (by decide), List.forall_mem_cons.mpr ⟨k_iconst (show decode cX6_used 14 = .ok (.iconst 0, 1) by decide +kernel) (by decide +kernel), List.forall_mem_cons.mpr ⟨k_ist_n (show decode cX6_used 15 = .ok (.istore_n 2, 1) by decide +kernel) rfl (by decide), List.forall_mem_cons.mpr ⟨k_ild_n (show decode cX6_used 16 = .ok (.iload_n 2, 1) by decide +kernel) rfl, List.forall_mem_cons.mpr ⟨k_ald_n (show decode cX6_used 17 = .ok (.aload_n 0, 1) by decide +kernel) rfl, List.forall_mem_cons.mpr ⟨k_getf (C := RX6) (T := TX6) (N := 5) (show decode cX6_used 18 = .ok (.getfield 10, 3) by decide +kernel) rfl inX6 (by decide) (gw1 239 rfl rfl) (by decide), List.forall_mem_cons.mpr ⟨k_getf (C := RX1) (T := TX1) (N := 10) (show decode cX6_used 21 = .ok (.getfield 204, 3) by decide +kernel) rfl inX1 (by decide) (gw1 177 rfl rfl) (by decide), List.forall_mem_cons.mpr ⟨k_icmp_ge (show decode cX6_used 24 = .ok (.if_icmp .ge 24, 3) by decide +kernel) (by decide), List.forall_mem_cons.mpr ⟨k_ild_n (show decode cX6_used 27 = .ok (.iload_n 1, 1) by decide +kernel) rfl, List.forall_mem_cons.mpr ⟨k_ald_n (show decode cX6_used 28 = .ok (.aload_n 0, 1) by decide +kernel) rfl, List.forall_mem_cons.mpr ⟨k_getf (C := RX6) (T := TX6) (N := 5) (show decode cX6_used 29 = .ok (.getfield 10, 3) by decide +kernel) rfl inX6 (by decide) (gw1 239 rfl rfl) (by decide), List.forall_mem_cons.mpr ⟨k_getf (C := RX1) (T := TX1) (N := 10) (show decode cX6_used 32 = .ok (.getfield 66, 3) by decide +kernel) rfl inX1 (by decide) (gw1 170 rfl rfl) (by decide), List.forall_mem_cons.mpr ⟨k_ild_n (show decode cX6_used 35 = .ok (.iload_n 2, 1) by decide +kernel) rfl, List.forall_mem_cons.mpr ⟨k_aald (show decode cX6_used 36 = .ok (.aaload, 1) by decide +kernel) (by decide) rfl, List.forall_mem_cons.mpr ⟨k_getf (C := RX3) (T := TX3) (N := 3) (show decode cX6_used 37 = .ok (.getfield 210, 3) by decide +kernel) rfl inX3 (by decide) (gw1 68 rfl rfl) (by decide), List.forall_mem_cons.mpr ⟨k_iadd (show decode cX6_used 40 = .ok (.iadd, 1) by decide +kernel), List.forall_mem_cons.mpr ⟨k_ist_n (show decode cX6_used 41 = .ok (.istore_n 1, 1) by decide +kernel) rfl (by decide), List.forall_mem_cons.mpr ⟨k_iinc (show decode cX6_used 42 = .ok (.iinc 2 1, 3) by decide +kernel) (by decide +kernel) (by decide), List.forall_mem_cons.mpr ⟨k_goto (show decode cX6_used 45 = .ok (.goto (-29), 3) by decide +kernel) (by decide), List.forall_mem_cons.mpr ⟨k_ild_n (show decode cX6_used 48 = .ok (.iload_n 1, 1) by decide +kernel) rfl, List.forall_mem_cons.mpr ⟨k_i2d (show decode cX6_used 49 = .ok (.i2d, 1) by decide +kernel), List.forall_mem_cons.mpr ⟨k_ald_n (show decode cX6_used 50 = .ok (.aload_n 0, 1) by decide +kernel) rfl, List.forall_mem_cons.mpr ⟨k_getf (C := RX6) (T := TX6) (N := 5) (show decode cX6_used 51 = .ok (.getfield 10, 3) by decide +kernel) rfl inX6 (by decide) (gw1 239 rfl rfl) (by decide), List.forall_mem_cons.mpr ⟨k_getf (C := RX1) (T := TX1) (N := 10) (show decode cX6_used 54 = .ok (.getfield 204, 3) by decide +kernel) rfl inX1 (by decide) (gw1 177 rfl rfl) (by decide), List.forall_mem_cons.mpr ⟨k_ald_n (show decode cX6_used 57 = .ok (.aload_n 0, 1) by decide +kernel) rfl, List.forall_mem_cons.mpr ⟨k_getf (C := RX6) (T := TX6) (N := 5) (show decode cX6_used 58 = .ok (.getfield 10, 3) by decide +kernel) rfl inX6 (by decide) (gw1 239 rfl rfl) (by decide), List.forall_mem_cons.mpr ⟨k_getf (C := RX1) (T := TX1) (N := 10) (show decode cX6_used 61 = .ok (.getfield 45, 3) by decide +kernel) rfl inX1 (by decide) (gw1 181 rfl rfl) (by decide), List.forall_mem_cons.mpr ⟨k_imul (show decode cX6_used 64 = .ok (.imul, 1) by decide +kernel), List.forall_mem_cons.mpr ⟨k_i2d (show decode cX6_used 65 = .ok (.i2d, 1) by decide +kernel), List.forall_mem_cons.mpr ⟨k_ddiv (show decode cX6_used 66 = .ok (.ddiv, 1) by decide +kernel), List.forall_mem_cons.mpr ⟨k_dret (show decode cX6_used 67 = .ok (.dreturn, 1) by decide +kernel), fun _ h => absurd h List.not_mem_nil⟩⟩⟩⟩⟩⟩⟩⟩⟩⟩⟩⟩⟩⟩⟩⟩⟩⟩⟩⟩⟩⟩⟩⟩⟩⟩⟩⟩⟩⟩⟩⟩⟩⟩⟩⟩⟩⟩
set_option maxRecDepth 20000 in
theorem okX6_undo : ∀ q ∈ jcX6_undo, JOk mtab cX6_undo RX6 ("undo", []) 1 none q.1 q.2 := by
  unfold jcX6_undo
  exact List.forall_mem_cons.mpr ⟨k_ald_n (show decode cX6_undo 0 = .ok (.aload_n 0, 1) by decide +kernel) rfl, List.forall_mem_cons.mpr ⟨k_getf (C := RX6) (T := TX6) (N := 5) (show decode cX6_undo 1 = .ok (.getfield 23, 3) by decide +kernel) rfl inX6 (by decide) (gw2 2 rfl rfl) (by decide), List.forall_mem_cons.mpr ⟨k_if_ne (show decode cX6_undo 4 = .ok (.ifCond .ne 13, 3) by decide +kernel) (by decide), List.forall_mem_cons.mpr ⟨k_thr (text := "no saved state") (by decide +kernel) (gw2 90 rfl rfl) (gw1 15 rfl rfl) (by decide +kernel) th_w117 (show decode cX6_undo 7 = .ok (.new 113, 3) by decide +kernel) (show decode cX6_undo 10 = .ok (.dup, 1) by decide +kernel) (show decode cX6_undo 11 = .ok (.ldc 242, 2) by decide +kernel) (show decode cX6_undo 13 = .ok (.invokespecial 117, 3) by decide +kernel) (show decode cX6_undo 16 = .ok (.athrow, 1) by decide +kernel), List.forall_mem_cons.mpr ⟨k_ald_n (show decode cX6_undo 17 = .ok (.aload_n 0, 1) by decide +kernel) rfl, List.forall_mem_cons.mpr ⟨k_dup (show decode cX6_undo 18 = .ok (.dup, 1) by decide +kernel), List.forall_mem_cons.mpr ⟨k_getf (C := RX6) (T := TX6) (N := 5) (show decode cX6_undo 19 = .ok (.getfield 23, 3) by decide +kernel) rfl inX6 (by decide) (gw2 2 rfl rfl) (by decide), List.forall_mem_cons.mpr ⟨k_iconst (show decode cX6_undo 22 = .ok (.iconst 1, 1) by decide +kernel) (by decide +kernel), List.forall_mem_cons.mpr ⟨k_isub (show decode cX6_undo 23 = .ok (.isub, 1) by decide +kernel), List.forall_mem_cons.mpr ⟨k_puti (C := RX6) (T := TX6) (N := 5) (show decode cX6_undo 24 = .ok (.putfield 23, 3) by decide +kernel) rfl inX6 tyX6_ok nmX6 (by decide) rfl rfl (gw2 2 rfl rfl) (by decide), List.forall_mem_cons.mpr ⟨k_ald_n (show decode cX6_undo 27 = .ok (.aload_n 0, 1) by decide +kernel) rfl, List.forall_mem_cons.mpr ⟨k_getf (C := RX6) (T := TX6) (N := 5) (show decode cX6_undo 28 = .ok (.getfield 10, 3) by decide +kernel) rfl inX6 (by decide) (gw1 239 rfl rfl) (by decide), List.forall_mem_cons.mpr ⟨k_ald_n (show decode cX6_undo 31 = .ok (.aload_n 0, 1) by decide +kernel) rfl, List.forall_mem_cons.mpr ⟨k_getf (C := RX6) (T := TX6) (N := 5) (show decode cX6_undo 32 = .ok (.getfield 19, 3) by decide +kernel) rfl inX6 (by decide) (gw2 1 rfl rfl) (by decide), List.forall_mem_cons.mpr ⟨k_ald_n (show decode cX6_undo 35 = .ok (.aload_n 0, 1) by decide +kernel) rfl, List.forall_mem_cons.mpr ⟨k_getf (C := RX6) (T := TX6) (N := 5) (show decode cX6_undo 36 = .ok (.getfield 23, 3) by decide +kernel) rfl inX6 (by decide) (gw2 2 rfl rfl) (by decide), List.forall_mem_cons.mpr ⟨k_aald (show decode cX6_undo 39 = .ok (.aaload, 1) by decide +kernel) (by decide) rfl, List.forall_mem_cons.mpr ⟨k_inv (M := mX1_copyFrom) (T := TX1) (N := 10) rfl rfl (show decode cX6_undo 40 = .ok (.invokevirtual 184, 3) by decide +kernel) rfl (by decide) (by decide +kernel) (by decide) (gw2 117 rfl rfl) (gw2 114 rfl rfl) (gw2 115 rfl rfl) (gw2 116 rfl rfl) (gw1 2 rfl rfl) (fun _ h => absurd h List.not_mem_nil), List.forall_mem_cons.mpr ⟨k_ald_n (show decode cX6_undo 43 = .ok (.aload_n 0, 1) by decide +kernel) rfl, List.forall_mem_cons.mpr ⟨k_getf (C := RX6) (T := TX6) (N := 5) (show decode cX6_undo 44 = .ok (.getfield 23, 3) by decide +kernel) rfl inX6 (by decide) (gw2 2 rfl rfl) (by decide), List.forall_mem_cons.mpr ⟨k_iret (show decode cX6_undo 47 = .ok (.ireturn, 1) by decide +kernel), fun _ h => absurd h List.not_mem_nil⟩⟩⟩⟩⟩⟩⟩⟩⟩⟩⟩⟩⟩⟩⟩⟩⟩⟩⟩⟩⟩
set_option maxRecDepth 20000 in
theorem okX6_isOutside : ∀ q ∈ jcX6_isOutside, JOk mtab cX6_isOutside RX6 ("isOutside", []) 3 none q.1 q.2 := by
  unfold jcX6_isOutside
  exact List.forall_mem_cons.mpr ⟨k_ild_n (show decode cX6_isOutside 0 = .ok (.iload_n 0, 1) by decide +kernel) rfl, List.forall_mem_cons.mpr ⟨k_ild_n (show decode cX6_isOutside 1 = .ok (.iload_n 1, 1) by decide +kernel) rfl, List.forall_mem_cons.mpr ⟨k_icmp_lt (show decode cX6_isOutside 2 = .ok (.if_icmp .lt 8, 3) by decide +kernel) (by decide), List.forall_mem_cons.mpr ⟨k_ild_n (show decode cX6_isOutside 5 = .ok (.iload_n 0, 1) by decide +kernel) rfl, List.forall_mem_cons.mpr ⟨k_ild_n (show decode cX6_isOutside 6 = .ok (.iload_n 2, 1) by decide +kernel) rfl, List.forall_mem_cons.mpr ⟨k_icmp_le (show decode cX6_isOutside 7 = .ok (.if_icmp .le 7, 3) by decide +kernel) (by decide), List.forall_mem_cons.mpr ⟨k_iconst (show decode cX6_isOutside 10 = .ok (.iconst 1, 1) by decide +kernel) (by decide +kernel), List.forall_mem_cons.mpr ⟨k_goto (show decode cX6_isOutside 11 = .ok (.goto 4, 3) by decide +kernel) (by decide), List.forall_mem_cons.mpr ⟨k_iconst (show decode cX6_isOutside 14 = .ok (.iconst 0, 1) by decide +kernel) (by decide +kernel), List.forall_mem_cons.mpr ⟨k_iret (show decode cX6_isOutside 15 = .ok (.ireturn, 1) by decide +kernel), fun _ h => absurd h List.not_mem_nil⟩⟩⟩⟩⟩⟩⟩⟩⟩⟩
set_option maxRecDepth 20000 in
theorem okX6_isKind : ∀ q ∈ jcX6_isKind, JOk mtab cX6_isKind RX6 ("isKind", []) 1 none q.1 q.2 := by
  unfold jcX6_isKind
  exact List.forall_mem_cons.mpr ⟨k_ild_n (show decode cX6_isKind 0 = .ok (.iload_n 0, 1) by decide +kernel) rfl, List.forall_mem_cons.mpr ⟨k_bipush (show decode cX6_isKind 1 = .ok (.bipush 11, 2) by decide +kernel) (by decide +kernel), List.forall_mem_cons.mpr ⟨k_bipush (show decode cX6_isKind 3 = .ok (.bipush 43, 2) by decide +kernel) (by decide +kernel), List.forall_mem_cons.mpr ⟨k_ins (M := mX6_isOutside) rfl rfl (show decode cX6_isKind 5 = .ok (.invokestatic 34, 3) by decide +kernel) (by decide +kernel) (by decide) (gw2 21 rfl rfl) (gw2 19 rfl rfl) (gw2 20 rfl rfl) (gw1 1 rfl rfl), List.forall_mem_cons.mpr ⟨k_if_ne (show decode cX6_isKind 8 = .ok (.ifCond .ne 19, 3) by decide +kernel) (by decide), List.forall_mem_cons.mpr ⟨k_ild_n (show decode cX6_isKind 11 = .ok (.iload_n 0, 1) by decide +kernel) rfl, List.forall_mem_cons.mpr ⟨k_bipush (show decode cX6_isKind 12 = .ok (.bipush 10, 2) by decide +kernel) (by decide +kernel), List.forall_mem_cons.mpr ⟨k_irem (show decode cX6_isKind 14 = .ok (.irem, 1) by decide +kernel), List.forall_mem_cons.mpr ⟨k_iconst (show decode cX6_isKind 15 = .ok (.iconst 1, 1) by decide +kernel) (by decide +kernel), List.forall_mem_cons.mpr ⟨k_iconst (show decode cX6_isKind 16 = .ok (.iconst 3, 1) by decide +kernel) (by decide +kernel), List.forall_mem_cons.mpr ⟨k_ins (M := mX6_isOutside) rfl rfl (show decode cX6_isKind 17 = .ok (.invokestatic 34, 3) by decide +kernel) (by decide +kernel) (by decide) (gw2 21 rfl rfl) (gw2 19 rfl rfl) (gw2 20 rfl rfl) (gw1 1 rfl rfl), List.forall_mem_cons.mpr ⟨k_if_ne (show decode cX6_isKind 20 = .ok (.ifCond .ne 7, 3) by decide +kernel) (by decide), List.forall_mem_cons.mpr ⟨k_iconst (show decode cX6_isKind 23 = .ok (.iconst 1, 1) by decide +kernel) (by decide +kernel), List.forall_mem_cons.mpr ⟨k_goto (show decode cX6_isKind 24 = .ok (.goto 4, 3) by decide +kernel) (by decide), List.forall_mem_cons.mpr ⟨k_iconst (show decode cX6_isKind 27 = .ok (.iconst 0, 1) by decide +kernel) (by decide +kernel), List.forall_mem_cons.mpr ⟨k_iret (show decode cX6_isKind 28 = .ok (.ireturn, 1) by decide +kernel), fun _ h => absurd h List.not_mem_nil⟩⟩⟩⟩⟩⟩⟩⟩⟩⟩⟩⟩⟩⟩⟩⟩
set_option maxRecDepth 20000 in
theorem okX6_save : ∀ q ∈ jcX6_save, JOk mtab cX6_save RX6 ("save", []) 1 none q.1 q.2 := by
  unfold jcX6_save
  exact List.forall_mem_cons.mpr ⟨k_ald_n (show decode cX6_save 0 = .ok (.aload_n 0, 1) by decide +kernel) rfl, List.forall_mem_cons.mpr ⟨k_getf (C := RX6) (T := TX6) (N := 5) (show decode cX6_save 1 = .ok (.getfield 23, 3) by decide +kernel) rfl inX6 (by decide) (gw2 2 rfl rfl) (by decide), List.forall_mem_cons.mpr ⟨k_iconst (show decode cX6_save 4 = .ok (.iconst 4, 1) by decide +kernel) (by decide +kernel), List.forall_mem_cons.mpr ⟨k_icmp_ne (show decode cX6_save 5 = .ok (.if_icmp .ne 7, 3) by decide +kernel) (by decide), List.forall_mem_cons.mpr ⟨k_ald_n (show decode cX6_save 8 = .ok (.aload_n 0, 1) by decide +kernel) rfl, List.forall_mem_cons.mpr ⟨k_inv (M := mX6_dropOldest) (T := TX6) (N := 5) rfl rfl (show decode cX6_save 9 = .ok (.invokevirtual 251, 3) by decide +kernel) rfl (by decide) (by decide +kernel) (by decide) (gw2 113 rfl rfl) (gw2 110 rfl rfl) (gw2 112 rfl rfl) (gs1 2 rfl) (gw1 1 rfl rfl) (fun _ h => absurd h List.not_mem_nil), List.forall_mem_cons.mpr ⟨k_ald_n (show decode cX6_save 12 = .ok (.aload_n 0, 1) by decide +kernel) rfl, List.forall_mem_cons.mpr ⟨k_getf (C := RX6) (T := TX6) (N := 5) (show decode cX6_save 13 = .ok (.getfield 19, 3) by decide +kernel) rfl inX6 (by decide) (gw2 1 rfl rfl) (by decide), List.forall_mem_cons.mpr ⟨k_ald_n (show decode cX6_save 16 = .ok (.aload_n 0, 1) by decide +kernel) rfl, List.forall_mem_cons.mpr ⟨k_getf (C := RX6) (T := TX6) (N := 5) (show decode cX6_save 17 = .ok (.getfield 23, 3) by decide +kernel) rfl inX6 (by decide) (gw2 2 rfl rfl) (by decide), List.forall_mem_cons.mpr ⟨k_aald (show decode cX6_save 20 = .ok (.aaload, 1) by decide +kernel) (by decide) rfl, List.forall_mem_cons.mpr ⟨k_ald_n (show decode cX6_save 21 = .ok (.aload_n 0, 1) by decide +kernel) rfl, List.forall_mem_cons.mpr ⟨k_getf (C := RX6) (T := TX6) (N := 5) (show decode cX6_save 22 = .ok (.getfield 10, 3) by decide +kernel) rfl inX6 (by decide) (gw1 239 rfl rfl) (by decide), List.forall_mem_cons.mpr ⟨k_inv (M := mX1_copyFrom) (T := TX1) (N := 10) rfl rfl (show decode cX6_save 25 = .ok (.invokevirtual 184, 3) by decide +kernel) rfl (by decide) (by decide +kernel) (by decide) (gw2 117 rfl rfl) (gw2 114 rfl rfl) (gw2 115 rfl rfl) (gw2 116 rfl rfl) (gw1 2 rfl rfl) (fun _ h => absurd h List.not_mem_nil), List.forall_mem_cons.mpr ⟨k_ald_n (show decode cX6_save 28 = .ok (.aload_n 0, 1) by decide +kernel) rfl, List.forall_mem_cons.mpr ⟨k_dup (show decode cX6_save 29 = .ok (.dup, 1) by decide +kernel), List.forall_mem_cons.mpr ⟨k_getf (C := RX6) (T := TX6) (N := 5) (show decode cX6_save 30 = .ok (.getfield 23, 3) by decide +kernel) rfl inX6 (by decide) (gw2 2 rfl rfl) (by decide), List.forall_mem_cons.mpr ⟨k_iconst (show decode cX6_save 33 = .ok (.iconst 1, 1) by decide +kernel) (by decide +kernel), List.forall_mem_cons.mpr ⟨k_iadd (show decode cX6_save 34 = .ok (.iadd, 1) by decide +kernel), List.forall_mem_cons.mpr ⟨k_puti (C := RX6) (T := TX6) (N := 5) (show decode cX6_save 35 = .ok (.putfield 23, 3) by decide +kernel) rfl inX6 tyX6_ok nmX6 (by decide) rfl rfl (gw2 2 rfl rfl) (by decide), List.forall_mem_cons.mpr ⟨k_vret (show decode cX6_save 38 = .ok (.return_, 1) by decide +kernel), fun _ h => absurd h List.not_mem_nil⟩⟩⟩⟩⟩⟩⟩⟩⟩⟩⟩⟩⟩⟩⟩⟩⟩⟩⟩⟩⟩
set_option maxRecDepth 20000 in
theorem okX6_dropOldest : ∀ q ∈ jcX6_dropOldest, JOk mtab cX6_dropOldest RX6 ("dropOldest", []) 3 none q.1 q.2 := by
  unfold jcX6_dropOldest
  exact List.forall_mem_cons.mpr ⟨k_ald_n (show decode cX6_dropOldest 0 = .ok (.aload_n 0, 1) by decide +kernel) rfl, List.forall_mem_cons.mpr ⟨k_getf (C := RX6) (T := TX6) (N := 5) (show decode cX6_dropOldest 1 = .ok (.getfield 19, 3) by decide +kernel) rfl inX6 (by decide) (gw2 1 rfl rfl) (by decide), List.forall_mem_cons.mpr ⟨k_iconst (show decode cX6_dropOldest 4 = .ok (.iconst 0, 1) by decide +kernel) (by decide +kernel), List.forall_mem_cons.mpr ⟨k_aald (show decode cX6_dropOldest 5 = .ok (.aaload, 1) by decide +kernel) (by decide) rfl, List.forall_mem_cons.mpr ⟨k_ast_n (show decode cX6_dropOldest 6 = .ok (.astore_n 1, 1) by decide +kernel) rfl (by decide), List.forall_mem_cons.mpr ⟨k_iconst (show decode cX6_dropOldest 7 = .ok (.iconst 1, 1) by decide +kernel) (by decide +kernel), List.forall_mem_cons.mpr ⟨k_ist_n (show decode cX6_dropOldest 8 = .ok (.istore_n 2, 1) by decide +kernel) rfl (by decide), List.forall_mem_cons.mpr ⟨k_ild_n (show decode cX6_dropOldest 9 = .ok (.iload_n 2, 1) by decide +kernel) rfl, List.forall_mem_cons.mpr ⟨k_iconst (show decode cX6_dropOldest 10 = .ok (.iconst 4, 1) by decide +kernel) (by decide +kernel), List.forall_mem_cons.mpr ⟨k_icmp_ge (show decode cX6_dropOldest 11 = .ok (.if_icmp .ge 23, 3) by decide +kernel) (by decide), List.forall_mem_cons.mpr ⟨k_ald_n (show decode cX6_dropOldest 14 = .ok (.aload_n 0, 1) by decide +kernel) rfl, List.forall_mem_cons.mpr ⟨k_getf (C := RX6) (T := TX6) (N := 5) (show decode cX6_dropOldest 15 = .ok (.getfield 19, 3) by decide +kernel) rfl inX6 (by decide) (gw2 1 rfl rfl) (by decide), List.forall_mem_cons.mpr ⟨k_ild_n (show decode cX6_dropOldest 18 = .ok (.iload_n 2, 1) by decide +kernel) rfl, List.forall_mem_cons.mpr ⟨k_iconst (show decode cX6_dropOldest 19 = .ok (.iconst 1, 1) by decide +kernel) (by decide +kernel), List.forall_mem_cons.mpr ⟨k_isub (show decode cX6_dropOldest 20 = .ok (.isub, 1) by decide +kernel), List.forall_mem_cons.mpr ⟨k_ald_n (show decode cX6_dropOldest 21 = .ok (.aload_n 0, 1) by decide +kernel) rfl, List.forall_mem_cons.mpr ⟨k_getf (C := RX6) (T := TX6) (N := 5) (show decode cX6_dropOldest 22 = .ok (.getfield 19, 3) by decide +kernel) rfl inX6 (by decide) (gw2 1 rfl rfl) (by decide), List.forall_mem_cons.mpr ⟨k_ild_n (show decode cX6_dropOldest 25 = .ok (.iload_n 2, 1) by decide +kernel) rfl, List.forall_mem_cons.mpr ⟨k_aald (show decode cX6_dropOldest 26 = .ok (.aaload, 1) by decide +kernel) (by decide) rfl, List.forall_mem_cons.mpr ⟨k_aast (show decode cX6_dropOldest 27 = .ok (.aastore, 1) by decide +kernel) (by decide) rfl rfl (by decide), List.forall_mem_cons.mpr ⟨k_iinc (show decode cX6_dropOldest 28 = .ok (.iinc 2 1, 3) by decide +kernel) (by decide +kernel) (by decide), List.forall_mem_cons.mpr ⟨k_goto (show decode cX6_dropOldest 31 = .ok (.goto (-22), 3) by decide +kernel) (by decide), List.forall_mem_cons.mpr ⟨k_ald_n (show decode cX6_dropOldest 34 = .ok (.aload_n 0, 1) by decide +kernel) rfl, List.forall_mem_cons.mpr ⟨k_getf (C := RX6) (T := TX6) (N := 5) (show decode cX6_dropOldest 35 = .ok (.getfield 19, 3) by decide +kernel) rfl inX6 (by decide) (gw2 1 rfl rfl) (by decide), List.forall_mem_cons.mpr ⟨k_iconst (show decode cX6_dropOldest 38 = .ok (.iconst 3, 1) by decide +kernel) (by decide +kernel), List.forall_mem_cons.mpr ⟨k_ald_n (show decode cX6_dropOldest 39 = .ok (.aload_n 1, 1) by decide +kernel) rfl, List.forall_mem_cons.mpr ⟨k_aast (show decode cX6_dropOldest 40 = .ok (.aastore, 1) by decide +kernel) (by decide) rfl rfl (by decide), List.forall_mem_cons.mpr ⟨k_ald_n (show decode cX6_dropOldest 41 = .ok (.aload_n 0, 1) by decide +kernel) rfl, List.forall_mem_cons.mpr ⟨k_dup (show decode cX6_dropOldest 42 = .ok (.dup, 1) by decide +kernel), List.forall_mem_cons.mpr ⟨k_getf (C := RX6) (T := TX6) (N := 5) (show decode cX6_dropOldest 43 = .ok (.getfield 23, 3) by decide +kernel) rfl inX6 (by decide) (gw2 2 rfl rfl) (by decide), List.forall_mem_cons.mpr ⟨k_iconst (show decode cX6_dropOldest 46 = .ok (.iconst 1, 1) by decide +kernel) (by decide +kernel), List.forall_mem_cons.mpr ⟨k_isub (show decode cX6_dropOldest 47 = .ok (.isub, 1) by decide +kernel), List.forall_mem_cons.mpr ⟨k_puti (C := RX6) (T := TX6) (N := 5) (show decode cX6_dropOldest 48 = .ok (.putfield 23, 3) by decide +kernel) rfl inX6 tyX6_ok nmX6 (by decide) rfl rfl (gw2 2 rfl rfl) (by decide), List.forall_mem_cons.mpr ⟨k_vret (show decode cX6_dropOldest 51 = .ok (.return_, 1) by decide +kernel), fun _ h => absurd h List.not_mem_nil⟩⟩⟩⟩⟩⟩⟩⟩⟩⟩⟩⟩⟩⟩⟩⟩⟩⟩⟩⟩⟩⟩⟩⟩⟩⟩⟩⟩⟩⟩⟩⟩⟩⟩
end
section
/-! each action of a table is sound -/
set_option maxRecDepth 20000 in
theorem okL_up : ∀ q ∈ jcL_up, JOk mtab cL_up RL ("up", []) 2 none q.1 q.2 := by
  unfold jcL_up
  exact List.forall_mem_cons.mpr ⟨k_ild_n (show decode cL_up 0 = .ok (.iload_n 0, 1) by decide +kernel) rfl, List.forall_mem_cons.mpr ⟨k_ldci (show decode cL_up 1 = .ok (.ldc 8, 2) by decide +kernel) (gw3 48 rfl rfl), List.forall_mem_cons.mpr ⟨k_iand (show decode cL_up 3 = .ok (.iand, 1) by decide +kernel), List.forall_mem_cons.mpr ⟨k_ild_n (show decode cL_up 4 = .ok (.iload_n 1, 1) by decide +kernel) rfl, List.forall_mem_cons.mpr ⟨k_irem (show decode cL_up 5 = .ok (.irem, 1) by decide +kernel), List.forall_mem_cons.mpr ⟨k_iret (show decode cL_up 6 = .ok (.ireturn, 1) by decide +kernel), fun _ h => absurd h List.not_mem_nil⟩⟩⟩⟩⟩⟩
set_option maxRecDepth 20000 in
theorem okL_fields_p1 : ∀ q ∈ jcL_fields_p1, JOk mtab cL_fields RL ("fields", []) 7 none q.1 q.2 := by
  unfold jcL_fields_p1
  exact List.forall_mem_cons.mpr ⟨k_ald_n (show decode cL_fields 0 = .ok (.aload_n 0, 1) by decide +kernel) rfl, List.forall_mem_cons.mpr ⟨k_iconst (show decode cL_fields 1 = .ok (.iconst 4, 1) by decide +kernel) (by decide +kernel), List.forall_mem_cons.mpr ⟨k_iconst (show decode cL_fields 2 = .ok (.iconst 3, 1) by decide +kernel) (by decide +kernel), List.forall_mem_cons.mpr ⟨k_inv (M := mX6_begin) (T := TX6) (N := 5) rfl rfl (show decode cL_fields 3 = .ok (.invokevirtual 9, 3) by decide +kernel) rfl (by decide) (by decide +kernel) (by decide) (gw3 42 rfl rfl) (gw3 39 rfl rfl) (gw3 40 rfl rfl) (gw3 41 rfl rfl) (gw1 1 rfl rfl) (fun _ h => absurd h List.not_mem_nil), List.forall_mem_cons.mpr ⟨k_if_ne (show decode cL_fields 6 = .ok (.ifCond .ne 16, 3) by decide +kernel) (by decide), List.forall_mem_cons.mpr ⟨k_ald_n (show decode cL_fields 9 = .ok (.aload_n 1, 1) by decide +kernel) rfl, List.forall_mem_cons.mpr ⟨k_iconst (show decode cL_fields 10 = .ok (.iconst 4, 1) by decide +kernel) (by decide +kernel), List.forall_mem_cons.mpr ⟨k_iconst (show decode cL_fields 11 = .ok (.iconst 3, 1) by decide +kernel) (by decide +kernel), List.forall_mem_cons.mpr ⟨k_inv (M := mX6_begin) (T := TX6) (N := 5) rfl rfl (show decode cL_fields 12 = .ok (.invokevirtual 9, 3) by decide +kernel) rfl (by decide) (by decide +kernel) (by decide) (gw3 42 rfl rfl) (gw3 39 rfl rfl) (gw3 40 rfl rfl) (gw3 41 rfl rfl) (gw1 1 rfl rfl) (fun _ h => absurd h List.not_mem_nil), List.forall_mem_cons.mpr ⟨k_if_ne (show decode cL_fields 15 = .ok (.ifCond .ne 7, 3) by decide +kernel) (by decide), List.forall_mem_cons.mpr ⟨k_iconst (show decode cL_fields 18 = .ok (.iconst 1, 1) by decide +kernel) (by decide +kernel), List.forall_mem_cons.mpr ⟨k_goto (show decode cL_fields 19 = .ok (.goto 4, 3) by decide +kernel) (by decide), List.forall_mem_cons.mpr ⟨k_iconst (show decode cL_fields 22 = .ok (.iconst 0, 1) by decide +kernel) (by decide +kernel), List.forall_mem_cons.mpr ⟨k_ist_n (show decode cL_fields 23 = .ok (.istore_n 3, 1) by decide +kernel) rfl (by decide), List.forall_mem_cons.mpr ⟨k_ild_n (show decode cL_fields 24 = .ok (.iload_n 2, 1) by decide +kernel) rfl, List.forall_mem_cons.mpr ⟨k_iconst (show decode cL_fields 25 = .ok (.iconst 4, 1) by decide +kernel) (by decide +kernel), List.forall_mem_cons.mpr ⟨k_ins (M := mL_up) rfl rfl (show decode cL_fields 26 = .ok (.invokestatic 15, 3) by decide +kernel) (by decide +kernel) (by decide) (gw3 47 rfl rfl) (gw3 45 rfl rfl) (gw3 46 rfl rfl) (gw1 0 rfl rfl), List.forall_mem_cons.mpr ⟨k_ist (show decode cL_fields 29 = .ok (.istore 4, 2) by decide +kernel) (by decide), List.forall_mem_cons.mpr ⟨k_iconst (show decode cL_fields 31 = .ok (.iconst 0, 1) by decide +kernel) (by decide +kernel), List.forall_mem_cons.mpr ⟨k_ist (show decode cL_fields 32 = .ok (.istore 5, 2) by decide +kernel) (by decide), List.forall_mem_cons.mpr ⟨k_ild (show decode cL_fields 34 = .ok (.iload 5, 2) by decide +kernel), List.forall_mem_cons.mpr ⟨k_iconst (show decode cL_fields 36 = .ok (.iconst 4, 1) by decide +kernel) (by decide +kernel), List.forall_mem_cons.mpr ⟨k_icmp_ge (show decode cL_fields 37 = .ok (.if_icmp .ge 58, 3) by decide +kernel) (by decide), List.forall_mem_cons.mpr ⟨k_iconst (show decode cL_fields 40 = .ok (.iconst 1, 1) by decide +kernel) (by decide +kernel), List.forall_mem_cons.mpr ⟨k_ild (show decode cL_fields 41 = .ok (.iload 5, 2) by decide +kernel), List.forall_mem_cons.mpr ⟨k_iconst (show decode cL_fields 43 = .ok (.iconst 3, 1) by decide +kernel) (by decide +kernel), List.forall_mem_cons.mpr ⟨k_imul (show decode cL_fields 44 = .ok (.imul, 1) by decide +kernel), List.forall_mem_cons.mpr ⟨k_ild (show decode cL_fields 45 = .ok (.iload 4, 2) by decide +kernel), List.forall_mem_cons.mpr ⟨k_iadd (show decode cL_fields 47 = .ok (.iadd, 1) by decide +kernel), List.forall_mem_cons.mpr ⟨k_iconst (show decode cL_fields 48 = .ok (.iconst 4, 1) by decide +kernel) (by decide +kernel), List.forall_mem_cons.mpr ⟨k_irem (show decode cL_fields 49 = .ok (.irem, 1) by decide +kernel), List.forall_mem_cons.mpr ⟨k_iadd (show decode cL_fields 50 = .ok (.iadd, 1) by decide +kernel), List.forall_mem_cons.mpr ⟨k_ist (show decode cL_fields 51 = .ok (.istore 6, 2) by decide +kernel) (by decide), List.forall_mem_cons.mpr ⟨k_ild_n (show decode cL_fields 53 = .ok (.iload_n 3, 1) by decide +kernel) rfl, List.forall_mem_cons.mpr ⟨k_if_eq (show decode cL_fields 54 = .ok (.ifCond .eq 33, 3) by decide +kernel) (by decide), List.forall_mem_cons.mpr ⟨k_ald_n (show decode cL_fields 57 = .ok (.aload_n 0, 1) by decide +kernel) rfl, List.forall_mem_cons.mpr ⟨k_ild (show decode cL_fields 58 = .ok (.iload 5, 2) by decide +kernel), List.forall_mem_cons.mpr ⟨k_ild (show decode cL_fields 60 = .ok (.iload 6, 2) by decide +kernel), List.forall_mem_cons.mpr ⟨k_inv (M := mX6_setSpan) (T := TX6) (N := 5) rfl rfl (show decode cL_fields 62 = .ok (.invokevirtual 20, 3) by decide +kernel) rfl (by decide) (by decide +kernel) (by decide) (gw3 52 rfl rfl) (gw3 49 rfl rfl) (gw3 50 rfl rfl) (gw3 51 rfl rfl) (gw1 1 rfl rfl) (fun _ h => absurd h List.not_mem_nil), List.forall_mem_cons.mpr ⟨k_iconst (show decode cL_fields 65 = .ok (.iconst 2, 1) by decide +kernel) (by decide +kernel), fun _ h => absurd h List.not_mem_nil⟩⟩⟩⟩⟩⟩⟩⟩⟩⟩⟩⟩⟩⟩⟩⟩⟩⟩⟩⟩⟩⟩⟩⟩⟩⟩⟩⟩⟩⟩⟩⟩⟩⟩⟩⟩⟩⟩⟩⟩
set_option maxRecDepth 20000 in
theorem okL_fields_p2 : ∀ q ∈ jcL_fields_p2, JOk mtab cL_fields RL ("fields", []) 7 none q.1 q.2 := by
  unfold jcL_fields_p2
  exact List.forall_mem_cons.mpr ⟨k_icmp_ne (show decode cL_fields 66 = .ok (.if_icmp .ne 21, 3) by decide +kernel) (by decide), List.forall_mem_cons.mpr ⟨k_ald_n (show decode cL_fields 69 = .ok (.aload_n 1, 1) by decide +kernel) rfl, List.forall_mem_cons.mpr ⟨k_iconst (show decode cL_fields 70 = .ok (.iconst 3, 1) by decide +kernel) (by decide +kernel), List.forall_mem_cons.mpr ⟨k_ild (show decode cL_fields 71 = .ok (.iload 5, 2) by decide +kernel), List.forall_mem_cons.mpr ⟨k_isub (show decode cL_fields 73 = .ok (.isub, 1) by decide +kernel), List.forall_mem_cons.mpr ⟨k_ild (show decode cL_fields 74 = .ok (.iload 6, 2) by decide +kernel), List.forall_mem_cons.mpr ⟨k_inv (M := mX6_setSpan) (T := TX6) (N := 5) rfl rfl (show decode cL_fields 76 = .ok (.invokevirtual 20, 3) by decide +kernel) rfl (by decide) (by decide +kernel) (by decide) (gw3 52 rfl rfl) (gw3 49 rfl rfl) (gw3 50 rfl rfl) (gw3 51 rfl rfl) (gw1 1 rfl rfl) (fun _ h => absurd h List.not_mem_nil), List.forall_mem_cons.mpr ⟨k_iconst (show decode cL_fields 79 = .ok (.iconst 2, 1) by decide +kernel) (by decide +kernel), List.forall_mem_cons.mpr ⟨k_icmp_ne (show decode cL_fields 80 = .ok (.if_icmp .ne 7, 3) by decide +kernel) (by decide), List.forall_mem_cons.mpr ⟨k_iconst (show decode cL_fields 83 = .ok (.iconst 1, 1) by decide +kernel) (by decide +kernel), List.forall_mem_cons.mpr ⟨k_goto (show decode cL_fields 84 = .ok (.goto 4, 3) by decide +kernel) (by decide), List.forall_mem_cons.mpr ⟨k_iconst (show decode cL_fields 87 = .ok (.iconst 0, 1) by decide +kernel) (by decide +kernel), List.forall_mem_cons.mpr ⟨k_ist_n (show decode cL_fields 88 = .ok (.istore_n 3, 1) by decide +kernel) rfl (by decide), List.forall_mem_cons.mpr ⟨k_iinc (show decode cL_fields 89 = .ok (.iinc 5 1, 3) by decide +kernel) (by decide +kernel) (by decide), List.forall_mem_cons.mpr ⟨k_goto (show decode cL_fields 92 = .ok (.goto (-58), 3) by decide +kernel) (by decide), List.forall_mem_cons.mpr ⟨k_iconst (show decode cL_fields 95 = .ok (.iconst 0, 1) by decide +kernel) (by decide +kernel), List.forall_mem_cons.mpr ⟨k_ist (show decode cL_fields 96 = .ok (.istore 5, 2) by decide +kernel) (by decide), List.forall_mem_cons.mpr ⟨k_ild (show decode cL_fields 98 = .ok (.iload 5, 2) by decide +kernel), List.forall_mem_cons.mpr ⟨k_iconst (show decode cL_fields 100 = .ok (.iconst 3, 1) by decide +kernel) (by decide +kernel), List.forall_mem_cons.mpr ⟨k_icmp_ge (show decode cL_fields 101 = .ok (.if_icmp .ge 56, 3) by decide +kernel) (by decide), List.forall_mem_cons.mpr ⟨k_iconst (show decode cL_fields 104 = .ok (.iconst 1, 1) by decide +kernel) (by decide +kernel), List.forall_mem_cons.mpr ⟨k_ild (show decode cL_fields 105 = .ok (.iload 5, 2) by decide +kernel), List.forall_mem_cons.mpr ⟨k_ild (show decode cL_fields 107 = .ok (.iload 4, 2) by decide +kernel), List.forall_mem_cons.mpr ⟨k_iadd (show decode cL_fields 109 = .ok (.iadd, 1) by decide +kernel), List.forall_mem_cons.mpr ⟨k_iconst (show decode cL_fields 110 = .ok (.iconst 3, 1) by decide +kernel) (by decide +kernel), List.forall_mem_cons.mpr ⟨k_irem (show decode cL_fields 111 = .ok (.irem, 1) by decide +kernel), List.forall_mem_cons.mpr ⟨k_iadd (show decode cL_fields 112 = .ok (.iadd, 1) by decide +kernel), List.forall_mem_cons.mpr ⟨k_ist (show decode cL_fields 113 = .ok (.istore 6, 2) by decide +kernel) (by decide), List.forall_mem_cons.mpr ⟨k_ild_n (show decode cL_fields 115 = .ok (.iload_n 3, 1) by decide +kernel) rfl, List.forall_mem_cons.mpr ⟨k_if_eq (show decode cL_fields 116 = .ok (.ifCond .eq 33, 3) by decide +kernel) (by decide), List.forall_mem_cons.mpr ⟨k_ald_n (show decode cL_fields 119 = .ok (.aload_n 0, 1) by decide +kernel) rfl, List.forall_mem_cons.mpr ⟨k_ild (show decode cL_fields 120 = .ok (.iload 5, 2) by decide +kernel), List.forall_mem_cons.mpr ⟨k_ild (show decode cL_fields 122 = .ok (.iload 6, 2) by decide +kernel), List.forall_mem_cons.mpr ⟨k_inv (M := mX6_setStrength) (T := TX6) (N := 5) rfl rfl (show decode cL_fields 124 = .ok (.invokevirtual 23, 3) by decide +kernel) rfl (by decide) (by decide +kernel) (by decide) (gw3 77 rfl rfl) (gw3 74 rfl rfl) (gw3 75 rfl rfl) (gw3 76 rfl rfl) (gw1 1 rfl rfl) (fun _ h => absurd h List.not_mem_nil), List.forall_mem_cons.mpr ⟨k_iconst (show decode cL_fields 127 = .ok (.iconst 3, 1) by decide +kernel) (by decide +kernel), List.forall_mem_cons.mpr ⟨k_icmp_ne (show decode cL_fields 128 = .ok (.if_icmp .ne 21, 3) by decide +kernel) (by decide), List.forall_mem_cons.mpr ⟨k_ald_n (show decode cL_fields 131 = .ok (.aload_n 1, 1) by decide +kernel) rfl, List.forall_mem_cons.mpr ⟨k_iconst (show decode cL_fields 132 = .ok (.iconst 2, 1) by decide +kernel) (by decide +kernel), List.forall_mem_cons.mpr ⟨k_ild (show decode cL_fields 133 = .ok (.iload 5, 2) by decide +kernel), List.forall_mem_cons.mpr ⟨k_isub (show decode cL_fields 135 = .ok (.isub, 1) by decide +kernel), fun _ h => absurd h List.not_mem_nil⟩⟩⟩⟩⟩⟩⟩⟩⟩⟩⟩⟩⟩⟩⟩⟩⟩⟩⟩⟩⟩⟩⟩⟩⟩⟩⟩⟩⟩⟩⟩⟩⟩⟩⟩⟩⟩⟩⟩⟩
set_option maxRecDepth 20000 in
theorem okL_fields_p3 : ∀ q ∈ jcL_fields_p3, JOk mtab cL_fields RL ("fields", []) 7 none q.1 q.2 := by
  unfold jcL_fields_p3
  exact List.forall_mem_cons.mpr ⟨k_ild (show decode cL_fields 136 = .ok (.iload 6, 2) by decide +kernel), List.forall_mem_cons.mpr ⟨k_inv (M := mX6_setStrength) (T := TX6) (N := 5) rfl rfl (show decode cL_fields 138 = .ok (.invokevirtual 23, 3) by decide +kernel) rfl (by decide) (by decide +kernel) (by decide) (gw3 77 rfl rfl) (gw3 74 rfl rfl) (gw3 75 rfl rfl) (gw3 76 rfl rfl) (gw1 1 rfl rfl) (fun _ h => absurd h List.not_mem_nil), List.forall_mem_cons.mpr ⟨k_iconst (show decode cL_fields 141 = .ok (.iconst 3, 1) by decide +kernel) (by decide +kernel), List.forall_mem_cons.mpr ⟨k_icmp_ne (show decode cL_fields 142 = .ok (.if_icmp .ne 7, 3) by decide +kernel) (by decide), List.forall_mem_cons.mpr ⟨k_iconst (show decode cL_fields 145 = .ok (.iconst 1, 1) by decide +kernel) (by decide +kernel), List.forall_mem_cons.mpr ⟨k_goto (show decode cL_fields 146 = .ok (.goto 4, 3) by decide +kernel) (by decide), List.forall_mem_cons.mpr ⟨k_iconst (show decode cL_fields 149 = .ok (.iconst 0, 1) by decide +kernel) (by decide +kernel), List.forall_mem_cons.mpr ⟨k_ist_n (show decode cL_fields 150 = .ok (.istore_n 3, 1) by decide +kernel) rfl (by decide), List.forall_mem_cons.mpr ⟨k_iinc (show decode cL_fields 151 = .ok (.iinc 5 1, 3) by decide +kernel) (by decide +kernel) (by decide), List.forall_mem_cons.mpr ⟨k_goto (show decode cL_fields 154 = .ok (.goto (-56), 3) by decide +kernel) (by decide), List.forall_mem_cons.mpr ⟨k_ild_n (show decode cL_fields 157 = .ok (.iload_n 3, 1) by decide +kernel) rfl, List.forall_mem_cons.mpr ⟨k_iret (show decode cL_fields 158 = .ok (.ireturn, 1) by decide +kernel), fun _ h => absurd h List.not_mem_nil⟩⟩⟩⟩⟩⟩⟩⟩⟩⟩⟩⟩
theorem okL_fields : ∀ q ∈ jcL_fields, JOk mtab cL_fields RL ("fields", []) 7 none q.1 q.2 := by
  unfold jcL_fields
  exact List.forall_mem_append.mpr ⟨okL_fields_p1, List.forall_mem_append.mpr ⟨okL_fields_p2, okL_fields_p3⟩⟩
set_option maxRecDepth 20000 in
theorem okL_isStep_p1 : ∀ q ∈ jcL_isStep_p1, JOk mtab cL_isStep RL ("isStep", []) 7 none q.1 q.2 := by
  unfold jcL_isStep_p1
  exact List.forall_mem_cons.mpr ⟨k_ild_n (show decode cL_isStep 0 = .ok (.iload_n 2, 1) by decide +kernel) rfl, List.forall_mem_cons.mpr ⟨k_iconst (show decode cL_isStep 1 = .ok (.iconst 4, 1) by decide +kernel) (by decide +kernel), List.forall_mem_cons.mpr ⟨k_ishr (show decode cL_isStep 2 = .ok (.ishr, 1) by decide +kernel), List.forall_mem_cons.mpr ⟨k_ist_n (show decode cL_isStep 3 = .ok (.istore_n 3, 1) by decide +kernel) rfl (by decide), List.forall_mem_cons.mpr ⟨k_ild_n (show decode cL_isStep 4 = .ok (.iload_n 2, 1) by decide +kernel) rfl, List.forall_mem_cons.mpr ⟨k_bipush (show decode cL_isStep 5 = .ok (.bipush 10, 2) by decide +kernel) (by decide +kernel), List.forall_mem_cons.mpr ⟨k_ins (M := mL_up) rfl rfl (show decode cL_isStep 7 = .ok (.invokestatic 15, 3) by decide +kernel) (by decide +kernel) (by decide) (gw3 47 rfl rfl) (gw3 45 rfl rfl) (gw3 46 rfl rfl) (gw1 0 rfl rfl), List.forall_mem_cons.mpr ⟨k_tsw (show decode cL_isStep 10 = .ok (.tableswitch 278 0 4 #[34, 81, 81, 81, 188], 34) by decide +kernel) (by decide) (by decide) (by decide), List.forall_mem_cons.mpr ⟨k_ald_n (show decode cL_isStep 44 = .ok (.aload_n 0, 1) by decide +kernel) rfl, List.forall_mem_cons.mpr ⟨k_ild_n (show decode cL_isStep 45 = .ok (.iload_n 3, 1) by decide +kernel) rfl, List.forall_mem_cons.mpr ⟨k_bipush (show decode cL_isStep 46 = .ok (.bipush 80, 2) by decide +kernel) (by decide +kernel), List.forall_mem_cons.mpr ⟨k_ins (M := mL_up) rfl rfl (show decode cL_isStep 48 = .ok (.invokestatic 15, 3) by decide +kernel) (by decide +kernel) (by decide) (gw3 47 rfl rfl) (gw3 45 rfl rfl) (gw3 46 rfl rfl) (gw1 0 rfl rfl), List.forall_mem_cons.mpr ⟨k_ild_n (show decode cL_isStep 51 = .ok (.iload_n 3, 1) by decide +kernel) rfl, List.forall_mem_cons.mpr ⟨k_bipush (show decode cL_isStep 52 = .ok (.bipush 7, 2) by decide +kernel) (by decide +kernel), List.forall_mem_cons.mpr ⟨k_ishr (show decode cL_isStep 54 = .ok (.ishr, 1) by decide +kernel), List.forall_mem_cons.mpr ⟨k_bipush (show decode cL_isStep 55 = .ok (.bipush 120, 2) by decide +kernel) (by decide +kernel), List.forall_mem_cons.mpr ⟨k_ins (M := mL_up) rfl rfl (show decode cL_isStep 57 = .ok (.invokestatic 15, 3) by decide +kernel) (by decide +kernel) (by decide) (gw3 47 rfl rfl) (gw3 45 rfl rfl) (gw3 46 rfl rfl) (gw1 0 rfl rfl), List.forall_mem_cons.mpr ⟨k_inv (M := mX6_setCurfew) (T := TX6) (N := 5) rfl rfl (show decode cL_isStep 60 = .ok (.invokevirtual 26, 3) by decide +kernel) rfl (by decide) (by decide +kernel) (by decide) (gw3 90 rfl rfl) (gw3 87 rfl rfl) (gw3 88 rfl rfl) (gw3 89 rfl rfl) (gw1 1 rfl rfl) (fun _ h => absurd h List.not_mem_nil), List.forall_mem_cons.mpr ⟨k_ald_n (show decode cL_isStep 63 = .ok (.aload_n 1, 1) by decide +kernel) rfl, List.forall_mem_cons.mpr ⟨k_ild_n (show decode cL_isStep 64 = .ok (.iload_n 3, 1) by decide +kernel) rfl, List.forall_mem_cons.mpr ⟨k_bipush (show decode cL_isStep 65 = .ok (.bipush 80, 2) by decide +kernel) (by decide +kernel), List.forall_mem_cons.mpr ⟨k_ins (M := mL_up) rfl rfl (show decode cL_isStep 67 = .ok (.invokestatic 15, 3) by decide +kernel) (by decide +kernel) (by decide) (gw3 47 rfl rfl) (gw3 45 rfl rfl) (gw3 46 rfl rfl) (gw1 0 rfl rfl), List.forall_mem_cons.mpr ⟨k_ild_n (show decode cL_isStep 70 = .ok (.iload_n 3, 1) by decide +kernel) rfl, List.forall_mem_cons.mpr ⟨k_bipush (show decode cL_isStep 71 = .ok (.bipush 7, 2) by decide +kernel) (by decide +kernel), List.forall_mem_cons.mpr ⟨k_ishr (show decode cL_isStep 73 = .ok (.ishr, 1) by decide +kernel), List.forall_mem_cons.mpr ⟨k_bipush (show decode cL_isStep 74 = .ok (.bipush 120, 2) by decide +kernel) (by decide +kernel), List.forall_mem_cons.mpr ⟨k_ins (M := mL_up) rfl rfl (show decode cL_isStep 76 = .ok (.invokestatic 15, 3) by decide +kernel) (by decide +kernel) (by decide) (gw3 47 rfl rfl) (gw3 45 rfl rfl) (gw3 46 rfl rfl) (gw1 0 rfl rfl), List.forall_mem_cons.mpr ⟨k_inv (M := mX6_setCurfew) (T := TX6) (N := 5) rfl rfl (show decode cL_isStep 79 = .ok (.invokevirtual 26, 3) by decide +kernel) rfl (by decide) (by decide +kernel) (by decide) (gw3 90 rfl rfl) (gw3 87 rfl rfl) (gw3 88 rfl rfl) (gw3 89 rfl rfl) (gw1 1 rfl rfl) (fun _ h => absurd h List.not_mem_nil), List.forall_mem_cons.mpr ⟨k_icmp_ne (show decode cL_isStep 82 = .ok (.if_icmp .ne 7, 3) by decide +kernel) (by decide), List.forall_mem_cons.mpr ⟨k_iconst (show decode cL_isStep 85 = .ok (.iconst 1, 1) by decide +kernel) (by decide +kernel), List.forall_mem_cons.mpr ⟨k_goto (show decode cL_isStep 86 = .ok (.goto 4, 3) by decide +kernel) (by decide), List.forall_mem_cons.mpr ⟨k_iconst (show decode cL_isStep 89 = .ok (.iconst 0, 1) by decide +kernel) (by decide +kernel), List.forall_mem_cons.mpr ⟨k_iret (show decode cL_isStep 90 = .ok (.ireturn, 1) by decide +kernel), List.forall_mem_cons.mpr ⟨k_ild_n (show decode cL_isStep 91 = .ok (.iload_n 3, 1) by decide +kernel) rfl, List.forall_mem_cons.mpr ⟨k_iconst (show decode cL_isStep 92 = .ok (.iconst 4, 1) by decide +kernel) (by decide +kernel), List.forall_mem_cons.mpr ⟨k_ishr (show decode cL_isStep 93 = .ok (.ishr, 1) by decide +kernel), List.forall_mem_cons.mpr ⟨k_bipush (show decode cL_isStep 94 = .ok (.bipush 120, 2) by decide +kernel) (by decide +kernel), List.forall_mem_cons.mpr ⟨k_ins (M := mL_up) rfl rfl (show decode cL_isStep 96 = .ok (.invokestatic 15, 3) by decide +kernel) (by decide +kernel) (by decide) (gw3 47 rfl rfl) (gw3 45 rfl rfl) (gw3 46 rfl rfl) (gw1 0 rfl rfl), List.forall_mem_cons.mpr ⟨k_ist (show decode cL_isStep 99 = .ok (.istore 4, 2) by decide +kernel) (by decide), List.forall_mem_cons.mpr ⟨k_bipush (show decode cL_isStep 101 = .ok (.bipush 11, 2) by decide +kernel) (by decide +kernel), fun _ h => absurd h List.not_mem_nil⟩⟩⟩⟩⟩⟩⟩⟩⟩⟩⟩⟩⟩⟩⟩⟩⟩⟩⟩⟩⟩⟩⟩⟩⟩⟩⟩⟩⟩⟩⟩⟩⟩⟩⟩⟩⟩⟩⟩⟩
set_option maxRecDepth 20000 in
theorem okL_isStep_p2 : ∀ q ∈ jcL_isStep_p2, JOk mtab cL_isStep RL ("isStep", []) 7 none q.1 q.2 := by
  unfold jcL_isStep_p2
  exact List.forall_mem_cons.mpr ⟨k_bipush (show decode cL_isStep 103 = .ok (.bipush 10, 2) by decide +kernel) (by decide +kernel), List.forall_mem_cons.mpr ⟨k_ild_n (show decode cL_isStep 105 = .ok (.iload_n 3, 1) by decide +kernel) rfl, List.forall_mem_cons.mpr ⟨k_iconst (show decode cL_isStep 106 = .ok (.iconst 4, 1) by decide +kernel) (by decide +kernel), List.forall_mem_cons.mpr ⟨k_ins (M := mL_up) rfl rfl (show decode cL_isStep 107 = .ok (.invokestatic 15, 3) by decide +kernel) (by decide +kernel) (by decide) (gw3 47 rfl rfl) (gw3 45 rfl rfl) (gw3 46 rfl rfl) (gw1 0 rfl rfl), List.forall_mem_cons.mpr ⟨k_imul (show decode cL_isStep 110 = .ok (.imul, 1) by decide +kernel), List.forall_mem_cons.mpr ⟨k_iadd (show decode cL_isStep 111 = .ok (.iadd, 1) by decide +kernel), List.forall_mem_cons.mpr ⟨k_ild_n (show decode cL_isStep 112 = .ok (.iload_n 3, 1) by decide +kernel) rfl, List.forall_mem_cons.mpr ⟨k_iconst (show decode cL_isStep 113 = .ok (.iconst 2, 1) by decide +kernel) (by decide +kernel), List.forall_mem_cons.mpr ⟨k_ishr (show decode cL_isStep 114 = .ok (.ishr, 1) by decide +kernel), List.forall_mem_cons.mpr ⟨k_iconst (show decode cL_isStep 115 = .ok (.iconst 3, 1) by decide +kernel) (by decide +kernel), List.forall_mem_cons.mpr ⟨k_ins (M := mL_up) rfl rfl (show decode cL_isStep 116 = .ok (.invokestatic 15, 3) by decide +kernel) (by decide +kernel) (by decide) (gw3 47 rfl rfl) (gw3 45 rfl rfl) (gw3 46 rfl rfl) (gw1 0 rfl rfl), List.forall_mem_cons.mpr ⟨k_iadd (show decode cL_isStep 119 = .ok (.iadd, 1) by decide +kernel), List.forall_mem_cons.mpr ⟨k_ist (show decode cL_isStep 120 = .ok (.istore 5, 2) by decide +kernel) (by decide), List.forall_mem_cons.mpr ⟨k_ild (show decode cL_isStep 122 = .ok (.iload 4, 2) by decide +kernel), List.forall_mem_cons.mpr ⟨k_iconst (show decode cL_isStep 124 = .ok (.iconst 1, 1) by decide +kernel) (by decide +kernel), List.forall_mem_cons.mpr ⟨k_iadd (show decode cL_isStep 125 = .ok (.iadd, 1) by decide +kernel), List.forall_mem_cons.mpr ⟨k_ild_n (show decode cL_isStep 126 = .ok (.iload_n 3, 1) by decide +kernel) rfl, List.forall_mem_cons.mpr ⟨k_bipush (show decode cL_isStep 127 = .ok (.bipush 11, 2) by decide +kernel) (by decide +kernel), List.forall_mem_cons.mpr ⟨k_ishr (show decode cL_isStep 129 = .ok (.ishr, 1) by decide +kernel), List.forall_mem_cons.mpr ⟨k_sipush (show decode cL_isStep 130 = .ok (.sipush 150, 3) by decide +kernel) (by decide +kernel), List.forall_mem_cons.mpr ⟨k_ins (M := mL_up) rfl rfl (show decode cL_isStep 133 = .ok (.invokestatic 15, 3) by decide +kernel) (by decide +kernel) (by decide) (gw3 47 rfl rfl) (gw3 45 rfl rfl) (gw3 46 rfl rfl) (gw1 0 rfl rfl), List.forall_mem_cons.mpr ⟨k_iadd (show decode cL_isStep 136 = .ok (.iadd, 1) by decide +kernel), List.forall_mem_cons.mpr ⟨k_ist (show decode cL_isStep 137 = .ok (.istore 6, 2) by decide +kernel) (by decide), List.forall_mem_cons.mpr ⟨k_ald_n (show decode cL_isStep 139 = .ok (.aload_n 0, 1) by decide +kernel) rfl, List.forall_mem_cons.mpr ⟨k_iconst (show decode cL_isStep 140 = .ok (.iconst 2, 1) by decide +kernel) (by decide +kernel), List.forall_mem_cons.mpr ⟨k_inv (M := mX6_value) (T := TX6) (N := 5) rfl rfl (show decode cL_isStep 141 = .ok (.invokevirtual 29, 3) by decide +kernel) rfl (by decide) (by decide +kernel) (by decide) (gw2 230 rfl rfl) (gw2 227 rfl rfl) (gw2 228 rfl rfl) (gw2 229 rfl rfl) (gw1 1 rfl rfl) (fun _ h => absurd h List.not_mem_nil), List.forall_mem_cons.mpr ⟨k_bipush (show decode cL_isStep 144 = .ok (.bipush 12, 2) by decide +kernel) (by decide +kernel), List.forall_mem_cons.mpr ⟨k_icmp_eq (show decode cL_isStep 146 = .ok (.if_icmp .eq 46, 3) by decide +kernel) (by decide), List.forall_mem_cons.mpr ⟨k_ald_n (show decode cL_isStep 149 = .ok (.aload_n 0, 1) by decide +kernel) rfl, List.forall_mem_cons.mpr ⟨k_ild (show decode cL_isStep 150 = .ok (.iload 5, 2) by decide +kernel), List.forall_mem_cons.mpr ⟨k_ild (show decode cL_isStep 152 = .ok (.iload 4, 2) by decide +kernel), List.forall_mem_cons.mpr ⟨k_ild (show decode cL_isStep 154 = .ok (.iload 6, 2) by decide +kernel), List.forall_mem_cons.mpr ⟨k_ild_n (show decode cL_isStep 156 = .ok (.iload_n 3, 1) by decide +kernel) rfl, List.forall_mem_cons.mpr ⟨k_bipush (show decode cL_isStep 157 = .ok (.bipush 8, 2) by decide +kernel) (by decide +kernel), List.forall_mem_cons.mpr ⟨k_ishr (show decode cL_isStep 159 = .ok (.ishr, 1) by decide +kernel), List.forall_mem_cons.mpr ⟨k_sipush (show decode cL_isStep 160 = .ok (.sipush 401, 3) by decide +kernel) (by decide +kernel), List.forall_mem_cons.mpr ⟨k_ins (M := mL_up) rfl rfl (show decode cL_isStep 163 = .ok (.invokestatic 15, 3) by decide +kernel) (by decide +kernel) (by decide) (gw3 47 rfl rfl) (gw3 45 rfl rfl) (gw3 46 rfl rfl) (gw1 0 rfl rfl), List.forall_mem_cons.mpr ⟨k_inv (M := mX6_expect) (T := TX6) (N := 5) rfl rfl (show decode cL_isStep 166 = .ok (.invokevirtual 33, 3) by decide +kernel) rfl (by decide) (by decide +kernel) (by decide) (gw3 96 rfl rfl) (gw3 93 rfl rfl) (gw3 94 rfl rfl) (gw3 95 rfl rfl) (gw1 1 rfl rfl) (fun _ h => absurd h List.not_mem_nil), List.forall_mem_cons.mpr ⟨k_ald_n (show decode cL_isStep 169 = .ok (.aload_n 1, 1) by decide +kernel) rfl, List.forall_mem_cons.mpr ⟨k_ild (show decode cL_isStep 170 = .ok (.iload 5, 2) by decide +kernel), fun _ h => absurd h List.not_mem_nil⟩⟩⟩⟩⟩⟩⟩⟩⟩⟩⟩⟩⟩⟩⟩⟩⟩⟩⟩⟩⟩⟩⟩⟩⟩⟩⟩⟩⟩⟩⟩⟩⟩⟩⟩⟩⟩⟩⟩⟩
set_option maxRecDepth 20000 in
theorem okL_isStep_p3 : ∀ q ∈ jcL_isStep_p3, JOk mtab cL_isStep RL ("isStep", []) 7 none q.1 q.2 := by
  unfold jcL_isStep_p3
  exact List.forall_mem_cons.mpr ⟨k_ild (show decode cL_isStep 172 = .ok (.iload 4, 2) by decide +kernel), List.forall_mem_cons.mpr ⟨k_ild (show decode cL_isStep 174 = .ok (.iload 6, 2) by decide +kernel), List.forall_mem_cons.mpr ⟨k_ild_n (show decode cL_isStep 176 = .ok (.iload_n 3, 1) by decide +kernel) rfl, List.forall_mem_cons.mpr ⟨k_bipush (show decode cL_isStep 177 = .ok (.bipush 8, 2) by decide +kernel) (by decide +kernel), List.forall_mem_cons.mpr ⟨k_ishr (show decode cL_isStep 179 = .ok (.ishr, 1) by decide +kernel), List.forall_mem_cons.mpr ⟨k_sipush (show decode cL_isStep 180 = .ok (.sipush 401, 3) by decide +kernel) (by decide +kernel), List.forall_mem_cons.mpr ⟨k_ins (M := mL_up) rfl rfl (show decode cL_isStep 183 = .ok (.invokestatic 15, 3) by decide +kernel) (by decide +kernel) (by decide) (gw3 47 rfl rfl) (gw3 45 rfl rfl) (gw3 46 rfl rfl) (gw1 0 rfl rfl), List.forall_mem_cons.mpr ⟨k_inv (M := mX6_expect) (T := TX6) (N := 5) rfl rfl (show decode cL_isStep 186 = .ok (.invokevirtual 33, 3) by decide +kernel) rfl (by decide) (by decide +kernel) (by decide) (gw3 96 rfl rfl) (gw3 93 rfl rfl) (gw3 94 rfl rfl) (gw3 95 rfl rfl) (gw1 1 rfl rfl) (fun _ h => absurd h List.not_mem_nil), List.forall_mem_cons.mpr ⟨k_icmp_ne (show decode cL_isStep 189 = .ok (.if_icmp .ne 7, 3) by decide +kernel) (by decide), List.forall_mem_cons.mpr ⟨k_iconst (show decode cL_isStep 192 = .ok (.iconst 1, 1) by decide +kernel) (by decide +kernel), List.forall_mem_cons.mpr ⟨k_goto (show decode cL_isStep 193 = .ok (.goto 4, 3) by decide +kernel) (by decide), List.forall_mem_cons.mpr ⟨k_iconst (show decode cL_isStep 196 = .ok (.iconst 0, 1) by decide +kernel) (by decide +kernel), List.forall_mem_cons.mpr ⟨k_iret (show decode cL_isStep 197 = .ok (.ireturn, 1) by decide +kernel), List.forall_mem_cons.mpr ⟨k_ald_n (show decode cL_isStep 198 = .ok (.aload_n 0, 1) by decide +kernel) rfl, List.forall_mem_cons.mpr ⟨k_iconst (show decode cL_isStep 199 = .ok (.iconst 2, 1) by decide +kernel) (by decide +kernel), List.forall_mem_cons.mpr ⟨k_inv (M := mX6_value) (T := TX6) (N := 5) rfl rfl (show decode cL_isStep 200 = .ok (.invokevirtual 29, 3) by decide +kernel) rfl (by decide) (by decide +kernel) (by decide) (gw2 230 rfl rfl) (gw2 227 rfl rfl) (gw2 228 rfl rfl) (gw2 229 rfl rfl) (gw1 1 rfl rfl) (fun _ h => absurd h List.not_mem_nil), List.forall_mem_cons.mpr ⟨k_if_ne (show decode cL_isStep 203 = .ok (.ifCond .ne 7, 3) by decide +kernel) (by decide), List.forall_mem_cons.mpr ⟨k_iconst (show decode cL_isStep 206 = .ok (.iconst 0, 1) by decide +kernel) (by decide +kernel), List.forall_mem_cons.mpr ⟨k_goto (show decode cL_isStep 207 = .ok (.goto 12, 3) by decide +kernel) (by decide), List.forall_mem_cons.mpr ⟨k_ild_n (show decode cL_isStep 210 = .ok (.iload_n 3, 1) by decide +kernel) rfl, List.forall_mem_cons.mpr ⟨k_ald_n (show decode cL_isStep 211 = .ok (.aload_n 0, 1) by decide +kernel) rfl, List.forall_mem_cons.mpr ⟨k_iconst (show decode cL_isStep 212 = .ok (.iconst 2, 1) by decide +kernel) (by decide +kernel), List.forall_mem_cons.mpr ⟨k_inv (M := mX6_value) (T := TX6) (N := 5) rfl rfl (show decode cL_isStep 213 = .ok (.invokevirtual 29, 3) by decide +kernel) rfl (by decide) (by decide +kernel) (by decide) (gw2 230 rfl rfl) (gw2 227 rfl rfl) (gw2 228 rfl rfl) (gw2 229 rfl rfl) (gw1 1 rfl rfl) (fun _ h => absurd h List.not_mem_nil), List.forall_mem_cons.mpr ⟨k_ins (M := mL_up) rfl rfl (show decode cL_isStep 216 = .ok (.invokestatic 15, 3) by decide +kernel) (by decide +kernel) (by decide) (gw3 47 rfl rfl) (gw3 45 rfl rfl) (gw3 46 rfl rfl) (gw1 0 rfl rfl), List.forall_mem_cons.mpr ⟨k_ist (show decode cL_isStep 219 = .ok (.istore 4, 2) by decide +kernel) (by decide), List.forall_mem_cons.mpr ⟨k_ald_n (show decode cL_isStep 221 = .ok (.aload_n 0, 1) by decide +kernel) rfl, List.forall_mem_cons.mpr ⟨k_iconst (show decode cL_isStep 222 = .ok (.iconst 2, 1) by decide +kernel) (by decide +kernel), List.forall_mem_cons.mpr ⟨k_inv (M := mX6_value) (T := TX6) (N := 5) rfl rfl (show decode cL_isStep 223 = .ok (.invokevirtual 29, 3) by decide +kernel) rfl (by decide) (by decide +kernel) (by decide) (gw2 230 rfl rfl) (gw2 227 rfl rfl) (gw2 228 rfl rfl) (gw2 229 rfl rfl) (gw1 1 rfl rfl) (fun _ h => absurd h List.not_mem_nil), List.forall_mem_cons.mpr ⟨k_if_eq (show decode cL_isStep 226 = .ok (.ifCond .eq 14, 3) by decide +kernel) (by decide), List.forall_mem_cons.mpr ⟨k_ald_n (show decode cL_isStep 229 = .ok (.aload_n 0, 1) by decide +kernel) rfl, List.forall_mem_cons.mpr ⟨k_ild (show decode cL_isStep 230 = .ok (.iload 4, 2) by decide +kernel), List.forall_mem_cons.mpr ⟨k_iconst (show decode cL_isStep 232 = .ok (.iconst 5, 1) by decide +kernel) (by decide +kernel), List.forall_mem_cons.mpr ⟨k_inv (M := mX6_aircraft) (T := TX6) (N := 5) rfl rfl (show decode cL_isStep 233 = .ok (.invokevirtual 37, 3) by decide +kernel) rfl (by decide) (by decide +kernel) (by decide) (gw3 113 rfl rfl) (gw3 110 rfl rfl) (gw3 111 rfl rfl) (gw3 112 rfl rfl) (gw1 1 rfl rfl) (fun _ h => absurd h List.not_mem_nil), List.forall_mem_cons.mpr ⟨k_iconst (show decode cL_isStep 236 = .ok (.iconst 3, 1) by decide +kernel) (by decide +kernel), List.forall_mem_cons.mpr ⟨k_icmp_le (show decode cL_isStep 237 = .ok (.if_icmp .le 5, 3) by decide +kernel) (by decide), List.forall_mem_cons.mpr ⟨k_iconst (show decode cL_isStep 240 = .ok (.iconst 1, 1) by decide +kernel) (by decide +kernel), List.forall_mem_cons.mpr ⟨k_iret (show decode cL_isStep 241 = .ok (.ireturn, 1) by decide +kernel), List.forall_mem_cons.mpr ⟨k_ald_n (show decode cL_isStep 242 = .ok (.aload_n 0, 1) by decide +kernel) rfl, List.forall_mem_cons.mpr ⟨k_ild (show decode cL_isStep 243 = .ok (.iload 4, 2) by decide +kernel), List.forall_mem_cons.mpr ⟨k_iconst (show decode cL_isStep 245 = .ok (.iconst 2, 1) by decide +kernel) (by decide +kernel), fun _ h => absurd h List.not_mem_nil⟩⟩⟩⟩⟩⟩⟩⟩⟩⟩⟩⟩⟩⟩⟩⟩⟩⟩⟩⟩⟩⟩⟩⟩⟩⟩⟩⟩⟩⟩⟩⟩⟩⟩⟩⟩⟩⟩⟩⟩
set_option maxRecDepth 20000 in
theorem okL_isStep_p4 : ∀ q ∈ jcL_isStep_p4, JOk mtab cL_isStep RL ("isStep", []) 7 none q.1 q.2 := by
  unfold jcL_isStep_p4
  exact List.forall_mem_cons.mpr ⟨k_inv (M := mX6_aircraft) (T := TX6) (N := 5) rfl rfl (show decode cL_isStep 246 = .ok (.invokevirtual 37, 3) by decide +kernel) rfl (by decide) (by decide +kernel) (by decide) (gw3 113 rfl rfl) (gw3 110 rfl rfl) (gw3 111 rfl rfl) (gw3 112 rfl rfl) (gw1 1 rfl rfl) (fun _ h => absurd h List.not_mem_nil), List.forall_mem_cons.mpr ⟨k_iconst (show decode cL_isStep 249 = .ok (.iconst 1, 1) by decide +kernel) (by decide +kernel), List.forall_mem_cons.mpr ⟨k_iadd (show decode cL_isStep 250 = .ok (.iadd, 1) by decide +kernel), List.forall_mem_cons.mpr ⟨k_ild_n (show decode cL_isStep 251 = .ok (.iload_n 3, 1) by decide +kernel) rfl, List.forall_mem_cons.mpr ⟨k_iconst (show decode cL_isStep 252 = .ok (.iconst 4, 1) by decide +kernel) (by decide +kernel), List.forall_mem_cons.mpr ⟨k_ishr (show decode cL_isStep 253 = .ok (.ishr, 1) by decide +kernel), List.forall_mem_cons.mpr ⟨k_sipush (show decode cL_isStep 254 = .ok (.sipush 200, 3) by decide +kernel) (by decide +kernel), List.forall_mem_cons.mpr ⟨k_ins (M := mL_up) rfl rfl (show decode cL_isStep 257 = .ok (.invokestatic 15, 3) by decide +kernel) (by decide +kernel) (by decide) (gw3 47 rfl rfl) (gw3 45 rfl rfl) (gw3 46 rfl rfl) (gw1 0 rfl rfl), List.forall_mem_cons.mpr ⟨k_iadd (show decode cL_isStep 260 = .ok (.iadd, 1) by decide +kernel), List.forall_mem_cons.mpr ⟨k_ist (show decode cL_isStep 261 = .ok (.istore 5, 2) by decide +kernel) (by decide), List.forall_mem_cons.mpr ⟨k_ald_n (show decode cL_isStep 263 = .ok (.aload_n 0, 1) by decide +kernel) rfl, List.forall_mem_cons.mpr ⟨k_ild (show decode cL_isStep 264 = .ok (.iload 4, 2) by decide +kernel), List.forall_mem_cons.mpr ⟨k_ild (show decode cL_isStep 266 = .ok (.iload 5, 2) by decide +kernel), List.forall_mem_cons.mpr ⟨k_inv (M := mX6_setLeaves) (T := TX6) (N := 5) rfl rfl (show decode cL_isStep 268 = .ok (.invokevirtual 40, 3) by decide +kernel) rfl (by decide) (by decide +kernel) (by decide) (gw3 126 rfl rfl) (gw3 123 rfl rfl) (gw3 124 rfl rfl) (gw3 125 rfl rfl) (gw1 1 rfl rfl) (fun _ h => absurd h List.not_mem_nil), List.forall_mem_cons.mpr ⟨k_ald_n (show decode cL_isStep 271 = .ok (.aload_n 1, 1) by decide +kernel) rfl, List.forall_mem_cons.mpr ⟨k_ild (show decode cL_isStep 272 = .ok (.iload 4, 2) by decide +kernel), List.forall_mem_cons.mpr ⟨k_ild (show decode cL_isStep 274 = .ok (.iload 5, 2) by decide +kernel), List.forall_mem_cons.mpr ⟨k_inv (M := mX6_setLeaves) (T := TX6) (N := 5) rfl rfl (show decode cL_isStep 276 = .ok (.invokevirtual 40, 3) by decide +kernel) rfl (by decide) (by decide +kernel) (by decide) (gw3 126 rfl rfl) (gw3 123 rfl rfl) (gw3 124 rfl rfl) (gw3 125 rfl rfl) (gw1 1 rfl rfl) (fun _ h => absurd h List.not_mem_nil), List.forall_mem_cons.mpr ⟨k_icmp_ne (show decode cL_isStep 279 = .ok (.if_icmp .ne 7, 3) by decide +kernel) (by decide), List.forall_mem_cons.mpr ⟨k_iconst (show decode cL_isStep 282 = .ok (.iconst 1, 1) by decide +kernel) (by decide +kernel), List.forall_mem_cons.mpr ⟨k_goto (show decode cL_isStep 283 = .ok (.goto 4, 3) by decide +kernel) (by decide), List.forall_mem_cons.mpr ⟨k_iconst (show decode cL_isStep 286 = .ok (.iconst 0, 1) by decide +kernel) (by decide +kernel), List.forall_mem_cons.mpr ⟨k_iret (show decode cL_isStep 287 = .ok (.ireturn, 1) by decide +kernel), List.forall_mem_cons.mpr ⟨k_ald_n (show decode cL_isStep 288 = .ok (.aload_n 0, 1) by decide +kernel) rfl, List.forall_mem_cons.mpr ⟨k_iconst (show decode cL_isStep 289 = .ok (.iconst 1, 1) by decide +kernel) (by decide +kernel), List.forall_mem_cons.mpr ⟨k_ild_n (show decode cL_isStep 290 = .ok (.iload_n 3, 1) by decide +kernel) rfl, List.forall_mem_cons.mpr ⟨k_bipush (show decode cL_isStep 291 = .ok (.bipush 20, 2) by decide +kernel) (by decide +kernel), List.forall_mem_cons.mpr ⟨k_ins (M := mL_up) rfl rfl (show decode cL_isStep 293 = .ok (.invokestatic 15, 3) by decide +kernel) (by decide +kernel) (by decide) (gw3 47 rfl rfl) (gw3 45 rfl rfl) (gw3 46 rfl rfl) (gw1 0 rfl rfl), List.forall_mem_cons.mpr ⟨k_iadd (show decode cL_isStep 296 = .ok (.iadd, 1) by decide +kernel), List.forall_mem_cons.mpr ⟨k_inv (M := mX6_pass) (T := TX6) (N := 5) rfl rfl (show decode cL_isStep 297 = .ok (.invokevirtual 43, 3) by decide +kernel) rfl (by decide) (by decide +kernel) (by decide) (gw2 18 rfl rfl) (gw2 15 rfl rfl) (gw2 16 rfl rfl) (gw2 17 rfl rfl) (gw1 1 rfl rfl) (fun _ h => absurd h List.not_mem_nil), List.forall_mem_cons.mpr ⟨k_ald_n (show decode cL_isStep 300 = .ok (.aload_n 1, 1) by decide +kernel) rfl, List.forall_mem_cons.mpr ⟨k_iconst (show decode cL_isStep 301 = .ok (.iconst 1, 1) by decide +kernel) (by decide +kernel), List.forall_mem_cons.mpr ⟨k_ild_n (show decode cL_isStep 302 = .ok (.iload_n 3, 1) by decide +kernel) rfl, List.forall_mem_cons.mpr ⟨k_bipush (show decode cL_isStep 303 = .ok (.bipush 20, 2) by decide +kernel) (by decide +kernel), List.forall_mem_cons.mpr ⟨k_ins (M := mL_up) rfl rfl (show decode cL_isStep 305 = .ok (.invokestatic 15, 3) by decide +kernel) (by decide +kernel) (by decide) (gw3 47 rfl rfl) (gw3 45 rfl rfl) (gw3 46 rfl rfl) (gw1 0 rfl rfl), List.forall_mem_cons.mpr ⟨k_iadd (show decode cL_isStep 308 = .ok (.iadd, 1) by decide +kernel), List.forall_mem_cons.mpr ⟨k_inv (M := mX6_pass) (T := TX6) (N := 5) rfl rfl (show decode cL_isStep 309 = .ok (.invokevirtual 43, 3) by decide +kernel) rfl (by decide) (by decide +kernel) (by decide) (gw2 18 rfl rfl) (gw2 15 rfl rfl) (gw2 16 rfl rfl) (gw2 17 rfl rfl) (gw1 1 rfl rfl) (fun _ h => absurd h List.not_mem_nil), List.forall_mem_cons.mpr ⟨k_icmp_ne (show decode cL_isStep 312 = .ok (.if_icmp .ne 7, 3) by decide +kernel) (by decide), List.forall_mem_cons.mpr ⟨k_iconst (show decode cL_isStep 315 = .ok (.iconst 1, 1) by decide +kernel) (by decide +kernel), List.forall_mem_cons.mpr ⟨k_goto (show decode cL_isStep 316 = .ok (.goto 4, 3) by decide +kernel) (by decide), fun _ h => absurd h List.not_mem_nil⟩⟩⟩⟩⟩⟩⟩⟩⟩⟩⟩⟩⟩⟩⟩⟩⟩⟩⟩⟩⟩⟩⟩⟩⟩⟩⟩⟩⟩⟩⟩⟩⟩⟩⟩⟩⟩⟩⟩⟩
set_option maxRecDepth 20000 in
theorem okL_isStep_p5 : ∀ q ∈ jcL_isStep_p5, JOk mtab cL_isStep RL ("isStep", []) 7 none q.1 q.2 := by
  unfold jcL_isStep_p5
  exact List.forall_mem_cons.mpr ⟨k_iconst (show decode cL_isStep 319 = .ok (.iconst 0, 1) by decide +kernel) (by decide +kernel), List.forall_mem_cons.mpr ⟨k_iret (show decode cL_isStep 320 = .ok (.ireturn, 1) by decide +kernel), fun _ h => absurd h List.not_mem_nil⟩⟩
theorem okL_isStep : ∀ q ∈ jcL_isStep, JOk mtab cL_isStep RL ("isStep", []) 7 none q.1 q.2 := by
  unfold jcL_isStep
  exact List.forall_mem_append.mpr ⟨okL_isStep_p1, List.forall_mem_append.mpr ⟨okL_isStep_p2, List.forall_mem_append.mpr ⟨okL_isStep_p3, List.forall_mem_append.mpr ⟨okL_isStep_p4, okL_isStep_p5⟩⟩⟩⟩
set_option maxRecDepth 20000 in
theorem okL_turned : ∀ q ∈ jcL_turned, JOk mtab cL_turned RL ("turned", []) 2 none q.1 q.2 := by
  unfold jcL_turned
  exact List.forall_mem_cons.mpr ⟨k_ild_n (show decode cL_turned 0 = .ok (.iload_n 0, 1) by decide +kernel) rfl, List.forall_mem_cons.mpr ⟨k_if_ge (show decode cL_turned 1 = .ok (.ifCond .ge 7, 3) by decide +kernel) (by decide), List.forall_mem_cons.mpr ⟨k_ild_n (show decode cL_turned 4 = .ok (.iload_n 0, 1) by decide +kernel) rfl, List.forall_mem_cons.mpr ⟨k_goto (show decode cL_turned 5 = .ok (.goto 6, 3) by decide +kernel) (by decide), List.forall_mem_cons.mpr ⟨k_ild_n (show decode cL_turned 8 = .ok (.iload_n 1, 1) by decide +kernel) rfl, List.forall_mem_cons.mpr ⟨k_ild_n (show decode cL_turned 9 = .ok (.iload_n 0, 1) by decide +kernel) rfl, List.forall_mem_cons.mpr ⟨k_isub (show decode cL_turned 10 = .ok (.isub, 1) by decide +kernel), List.forall_mem_cons.mpr ⟨k_iret (show decode cL_turned 11 = .ok (.ireturn, 1) by decide +kernel), fun _ h => absurd h List.not_mem_nil⟩⟩⟩⟩⟩⟩⟩⟩
set_option maxRecDepth 20000 in
theorem okL_areAlike_p1 : ∀ q ∈ jcL_areAlike_p1, JOk mtab cL_areAlike RL ("areAlike", []) 6 none q.1 q.2 := by
  unfold jcL_areAlike_p1
  exact List.forall_mem_cons.mpr ⟨k_ald_n (show decode cL_areAlike 0 = .ok (.aload_n 0, 1) by decide +kernel) rfl, List.forall_mem_cons.mpr ⟨k_inv (M := mX6_minutesToAll) (T := TX6) (N := 5) rfl rfl (show decode cL_areAlike 1 = .ok (.invokevirtual 46, 3) by decide +kernel) rfl (by decide) (by decide +kernel) (by decide) (gw3 17 rfl rfl) (gw3 14 rfl rfl) (gw3 15 rfl rfl) (gw3 16 rfl rfl) (gw1 1 rfl rfl) (fun _ h => absurd h List.not_mem_nil), List.forall_mem_cons.mpr ⟨k_ald_n (show decode cL_areAlike 4 = .ok (.aload_n 1, 1) by decide +kernel) rfl, List.forall_mem_cons.mpr ⟨k_inv (M := mX6_minutesToAll) (T := TX6) (N := 5) rfl rfl (show decode cL_areAlike 5 = .ok (.invokevirtual 46, 3) by decide +kernel) rfl (by decide) (by decide +kernel) (by decide) (gw3 17 rfl rfl) (gw3 14 rfl rfl) (gw3 15 rfl rfl) (gw3 16 rfl rfl) (gw1 1 rfl rfl) (fun _ h => absurd h List.not_mem_nil), List.forall_mem_cons.mpr ⟨k_icmp_ne (show decode cL_areAlike 8 = .ok (.if_icmp .ne 19, 3) by decide +kernel) (by decide), List.forall_mem_cons.mpr ⟨k_ald_n (show decode cL_areAlike 11 = .ok (.aload_n 0, 1) by decide +kernel) rfl, List.forall_mem_cons.mpr ⟨k_inv (M := mX6_used) (T := TX6) (N := 5) rfl rfl (show decode cL_areAlike 12 = .ok (.invokevirtual 50, 3) by decide +kernel) rfl (by decide) (by decide +kernel) (by decide) (gw3 135 rfl rfl) (gw3 132 rfl rfl) (gw3 133 rfl rfl) (gw3 134 rfl rfl) (gw1 1 rfl rfl) (fun _ h => absurd h List.not_mem_nil), List.forall_mem_cons.mpr ⟨k_ald_n (show decode cL_areAlike 15 = .ok (.aload_n 1, 1) by decide +kernel) rfl, List.forall_mem_cons.mpr ⟨k_inv (M := mX6_used) (T := TX6) (N := 5) rfl rfl (show decode cL_areAlike 16 = .ok (.invokevirtual 50, 3) by decide +kernel) rfl (by decide) (by decide +kernel) (by decide) (gw3 135 rfl rfl) (gw3 132 rfl rfl) (gw3 133 rfl rfl) (gw3 134 rfl rfl) (gw1 1 rfl rfl) (fun _ h => absurd h List.not_mem_nil), List.forall_mem_cons.mpr ⟨k_dcmp (show decode cL_areAlike 19 = .ok (.dcmp .l, 1) by decide +kernel), List.forall_mem_cons.mpr ⟨k_if_ne (show decode cL_areAlike 20 = .ok (.ifCond .ne 7, 3) by decide +kernel) (by decide), List.forall_mem_cons.mpr ⟨k_iconst (show decode cL_areAlike 23 = .ok (.iconst 1, 1) by decide +kernel) (by decide +kernel), List.forall_mem_cons.mpr ⟨k_goto (show decode cL_areAlike 24 = .ok (.goto 4, 3) by decide +kernel) (by decide), List.forall_mem_cons.mpr ⟨k_iconst (show decode cL_areAlike 27 = .ok (.iconst 0, 1) by decide +kernel) (by decide +kernel), List.forall_mem_cons.mpr ⟨k_ist_n (show decode cL_areAlike 28 = .ok (.istore_n 2, 1) by decide +kernel) rfl (by decide), List.forall_mem_cons.mpr ⟨k_iconst (show decode cL_areAlike 29 = .ok (.iconst 0, 1) by decide +kernel) (by decide +kernel), List.forall_mem_cons.mpr ⟨k_ist_n (show decode cL_areAlike 30 = .ok (.istore_n 3, 1) by decide +kernel) rfl (by decide), List.forall_mem_cons.mpr ⟨k_ild_n (show decode cL_areAlike 31 = .ok (.iload_n 3, 1) by decide +kernel) rfl, List.forall_mem_cons.mpr ⟨k_bipush (show decode cL_areAlike 32 = .ok (.bipush 16, 2) by decide +kernel) (by decide +kernel), List.forall_mem_cons.mpr ⟨k_icmp_ge (show decode cL_areAlike 34 = .ok (.if_icmp .ge 32, 3) by decide +kernel) (by decide), List.forall_mem_cons.mpr ⟨k_ild_n (show decode cL_areAlike 37 = .ok (.iload_n 2, 1) by decide +kernel) rfl, List.forall_mem_cons.mpr ⟨k_if_eq (show decode cL_areAlike 38 = .ok (.ifCond .eq 20, 3) by decide +kernel) (by decide), List.forall_mem_cons.mpr ⟨k_ald_n (show decode cL_areAlike 41 = .ok (.aload_n 0, 1) by decide +kernel) rfl, List.forall_mem_cons.mpr ⟨k_ild_n (show decode cL_areAlike 42 = .ok (.iload_n 3, 1) by decide +kernel) rfl, List.forall_mem_cons.mpr ⟨k_inv (M := mX6_value) (T := TX6) (N := 5) rfl rfl (show decode cL_areAlike 43 = .ok (.invokevirtual 29, 3) by decide +kernel) rfl (by decide) (by decide +kernel) (by decide) (gw2 230 rfl rfl) (gw2 227 rfl rfl) (gw2 228 rfl rfl) (gw2 229 rfl rfl) (gw1 1 rfl rfl) (fun _ h => absurd h List.not_mem_nil), List.forall_mem_cons.mpr ⟨k_ald_n (show decode cL_areAlike 46 = .ok (.aload_n 1, 1) by decide +kernel) rfl, List.forall_mem_cons.mpr ⟨k_ild_n (show decode cL_areAlike 47 = .ok (.iload_n 3, 1) by decide +kernel) rfl, List.forall_mem_cons.mpr ⟨k_inv (M := mX6_value) (T := TX6) (N := 5) rfl rfl (show decode cL_areAlike 48 = .ok (.invokevirtual 29, 3) by decide +kernel) rfl (by decide) (by decide +kernel) (by decide) (gw2 230 rfl rfl) (gw2 227 rfl rfl) (gw2 228 rfl rfl) (gw2 229 rfl rfl) (gw1 1 rfl rfl) (fun _ h => absurd h List.not_mem_nil), List.forall_mem_cons.mpr ⟨k_icmp_ne (show decode cL_areAlike 51 = .ok (.if_icmp .ne 7, 3) by decide +kernel) (by decide), List.forall_mem_cons.mpr ⟨k_iconst (show decode cL_areAlike 54 = .ok (.iconst 1, 1) by decide +kernel) (by decide +kernel), List.forall_mem_cons.mpr ⟨k_goto (show decode cL_areAlike 55 = .ok (.goto 4, 3) by decide +kernel) (by decide), List.forall_mem_cons.mpr ⟨k_iconst (show decode cL_areAlike 58 = .ok (.iconst 0, 1) by decide +kernel) (by decide +kernel), List.forall_mem_cons.mpr ⟨k_ist_n (show decode cL_areAlike 59 = .ok (.istore_n 2, 1) by decide +kernel) rfl (by decide), List.forall_mem_cons.mpr ⟨k_iinc (show decode cL_areAlike 60 = .ok (.iinc 3 1, 3) by decide +kernel) (by decide +kernel) (by decide), List.forall_mem_cons.mpr ⟨k_goto (show decode cL_areAlike 63 = .ok (.goto (-32), 3) by decide +kernel) (by decide), List.forall_mem_cons.mpr ⟨k_iconst (show decode cL_areAlike 66 = .ok (.iconst 0, 1) by decide +kernel) (by decide +kernel), List.forall_mem_cons.mpr ⟨k_ist_n (show decode cL_areAlike 67 = .ok (.istore_n 3, 1) by decide +kernel) rfl (by decide), List.forall_mem_cons.mpr ⟨k_ild_n (show decode cL_areAlike 68 = .ok (.iload_n 3, 1) by decide +kernel) rfl, List.forall_mem_cons.mpr ⟨k_ald_n (show decode cL_areAlike 69 = .ok (.aload_n 0, 1) by decide +kernel) rfl, List.forall_mem_cons.mpr ⟨k_iconst (show decode cL_areAlike 70 = .ok (.iconst 2, 1) by decide +kernel) (by decide +kernel), fun _ h => absurd h List.not_mem_nil⟩⟩⟩⟩⟩⟩⟩⟩⟩⟩⟩⟩⟩⟩⟩⟩⟩⟩⟩⟩⟩⟩⟩⟩⟩⟩⟩⟩⟩⟩⟩⟩⟩⟩⟩⟩⟩⟩⟩⟩
set_option maxRecDepth 20000 in
theorem okL_areAlike_p2 : ∀ q ∈ jcL_areAlike_p2, JOk mtab cL_areAlike RL ("areAlike", []) 6 none q.1 q.2 := by
  unfold jcL_areAlike_p2
  exact List.forall_mem_cons.mpr ⟨k_inv (M := mX6_value) (T := TX6) (N := 5) rfl rfl (show decode cL_areAlike 71 = .ok (.invokevirtual 29, 3) by decide +kernel) rfl (by decide) (by decide +kernel) (by decide) (gw2 230 rfl rfl) (gw2 227 rfl rfl) (gw2 228 rfl rfl) (gw2 229 rfl rfl) (gw1 1 rfl rfl) (fun _ h => absurd h List.not_mem_nil), List.forall_mem_cons.mpr ⟨k_icmp_ge (show decode cL_areAlike 74 = .ok (.if_icmp .ge 117, 3) by decide +kernel) (by decide), List.forall_mem_cons.mpr ⟨k_ild_n (show decode cL_areAlike 77 = .ok (.iload_n 2, 1) by decide +kernel) rfl, List.forall_mem_cons.mpr ⟨k_if_eq (show decode cL_areAlike 78 = .ok (.ifCond .eq 113, 3) by decide +kernel) (by decide), List.forall_mem_cons.mpr ⟨k_iconst (show decode cL_areAlike 81 = .ok (.iconst 0, 1) by decide +kernel) (by decide +kernel), List.forall_mem_cons.mpr ⟨k_ist (show decode cL_areAlike 82 = .ok (.istore 4, 2) by decide +kernel) (by decide), List.forall_mem_cons.mpr ⟨k_ild (show decode cL_areAlike 84 = .ok (.iload 4, 2) by decide +kernel), List.forall_mem_cons.mpr ⟨k_bipush (show decode cL_areAlike 86 = .ok (.bipush 10, 2) by decide +kernel) (by decide +kernel), List.forall_mem_cons.mpr ⟨k_icmp_ge (show decode cL_areAlike 88 = .ok (.if_icmp .ge 61, 3) by decide +kernel) (by decide), List.forall_mem_cons.mpr ⟨k_ild (show decode cL_areAlike 91 = .ok (.iload 4, 2) by decide +kernel), List.forall_mem_cons.mpr ⟨k_bipush (show decode cL_areAlike 93 = .ok (.bipush 6, 2) by decide +kernel) (by decide +kernel), List.forall_mem_cons.mpr ⟨k_icmp_ne (show decode cL_areAlike 95 = .ok (.if_icmp .ne 17, 3) by decide +kernel) (by decide), List.forall_mem_cons.mpr ⟨k_ald_n (show decode cL_areAlike 98 = .ok (.aload_n 0, 1) by decide +kernel) rfl, List.forall_mem_cons.mpr ⟨k_ild_n (show decode cL_areAlike 99 = .ok (.iload_n 3, 1) by decide +kernel) rfl, List.forall_mem_cons.mpr ⟨k_bipush (show decode cL_areAlike 100 = .ok (.bipush 6, 2) by decide +kernel) (by decide +kernel), List.forall_mem_cons.mpr ⟨k_inv (M := mX6_aircraft) (T := TX6) (N := 5) rfl rfl (show decode cL_areAlike 102 = .ok (.invokevirtual 37, 3) by decide +kernel) rfl (by decide) (by decide +kernel) (by decide) (gw3 113 rfl rfl) (gw3 110 rfl rfl) (gw3 111 rfl rfl) (gw3 112 rfl rfl) (gw1 1 rfl rfl) (fun _ h => absurd h List.not_mem_nil), List.forall_mem_cons.mpr ⟨k_iconst (show decode cL_areAlike 105 = .ok (.iconst 3, 1) by decide +kernel) (by decide +kernel), List.forall_mem_cons.mpr ⟨k_ins (M := mL_turned) rfl rfl (show decode cL_areAlike 106 = .ok (.invokestatic 54, 3) by decide +kernel) (by decide +kernel) (by decide) (gw3 138 rfl rfl) (gw3 136 rfl rfl) (gw3 137 rfl rfl) (gw1 0 rfl rfl), List.forall_mem_cons.mpr ⟨k_goto (show decode cL_areAlike 109 = .ok (.goto 10, 3) by decide +kernel) (by decide), List.forall_mem_cons.mpr ⟨k_ald_n (show decode cL_areAlike 112 = .ok (.aload_n 0, 1) by decide +kernel) rfl, List.forall_mem_cons.mpr ⟨k_ild_n (show decode cL_areAlike 113 = .ok (.iload_n 3, 1) by decide +kernel) rfl, List.forall_mem_cons.mpr ⟨k_ild (show decode cL_areAlike 114 = .ok (.iload 4, 2) by decide +kernel), List.forall_mem_cons.mpr ⟨k_inv (M := mX6_aircraft) (T := TX6) (N := 5) rfl rfl (show decode cL_areAlike 116 = .ok (.invokevirtual 37, 3) by decide +kernel) rfl (by decide) (by decide +kernel) (by decide) (gw3 113 rfl rfl) (gw3 110 rfl rfl) (gw3 111 rfl rfl) (gw3 112 rfl rfl) (gw1 1 rfl rfl) (fun _ h => absurd h List.not_mem_nil), List.forall_mem_cons.mpr ⟨k_ist (show decode cL_areAlike 119 = .ok (.istore 5, 2) by decide +kernel) (by decide), List.forall_mem_cons.mpr ⟨k_ild_n (show decode cL_areAlike 121 = .ok (.iload_n 2, 1) by decide +kernel) rfl, List.forall_mem_cons.mpr ⟨k_if_eq (show decode cL_areAlike 122 = .ok (.ifCond .eq 19, 3) by decide +kernel) (by decide), List.forall_mem_cons.mpr ⟨k_ild (show decode cL_areAlike 125 = .ok (.iload 5, 2) by decide +kernel), List.forall_mem_cons.mpr ⟨k_ald_n (show decode cL_areAlike 127 = .ok (.aload_n 1, 1) by decide +kernel) rfl, List.forall_mem_cons.mpr ⟨k_ild_n (show decode cL_areAlike 128 = .ok (.iload_n 3, 1) by decide +kernel) rfl, List.forall_mem_cons.mpr ⟨k_ild (show decode cL_areAlike 129 = .ok (.iload 4, 2) by decide +kernel), List.forall_mem_cons.mpr ⟨k_inv (M := mX6_aircraft) (T := TX6) (N := 5) rfl rfl (show decode cL_areAlike 131 = .ok (.invokevirtual 37, 3) by decide +kernel) rfl (by decide) (by decide +kernel) (by decide) (gw3 113 rfl rfl) (gw3 110 rfl rfl) (gw3 111 rfl rfl) (gw3 112 rfl rfl) (gw1 1 rfl rfl) (fun _ h => absurd h List.not_mem_nil), List.forall_mem_cons.mpr ⟨k_icmp_ne (show decode cL_areAlike 134 = .ok (.if_icmp .ne 7, 3) by decide +kernel) (by decide), List.forall_mem_cons.mpr ⟨k_iconst (show decode cL_areAlike 137 = .ok (.iconst 1, 1) by decide +kernel) (by decide +kernel), List.forall_mem_cons.mpr ⟨k_goto (show decode cL_areAlike 138 = .ok (.goto 4, 3) by decide +kernel) (by decide), List.forall_mem_cons.mpr ⟨k_iconst (show decode cL_areAlike 141 = .ok (.iconst 0, 1) by decide +kernel) (by decide +kernel), List.forall_mem_cons.mpr ⟨k_ist_n (show decode cL_areAlike 142 = .ok (.istore_n 2, 1) by decide +kernel) rfl (by decide), List.forall_mem_cons.mpr ⟨k_iinc (show decode cL_areAlike 143 = .ok (.iinc 4 1, 3) by decide +kernel) (by decide +kernel) (by decide), List.forall_mem_cons.mpr ⟨k_goto (show decode cL_areAlike 146 = .ok (.goto (-62), 3) by decide +kernel) (by decide), List.forall_mem_cons.mpr ⟨k_ild_n (show decode cL_areAlike 149 = .ok (.iload_n 2, 1) by decide +kernel) rfl, List.forall_mem_cons.mpr ⟨k_if_eq (show decode cL_areAlike 150 = .ok (.ifCond .eq 33, 3) by decide +kernel) (by decide), fun _ h => absurd h List.not_mem_nil⟩⟩⟩⟩⟩⟩⟩⟩⟩⟩⟩⟩⟩⟩⟩⟩⟩⟩⟩⟩⟩⟩⟩⟩⟩⟩⟩⟩⟩⟩⟩⟩⟩⟩⟩⟩⟩⟩⟩⟩
set_option maxRecDepth 20000 in
theorem okL_areAlike_p3 : ∀ q ∈ jcL_areAlike_p3, JOk mtab cL_areAlike RL ("areAlike", []) 6 none q.1 q.2 := by
  unfold jcL_areAlike_p3
  exact List.forall_mem_cons.mpr ⟨k_ald_n (show decode cL_areAlike 153 = .ok (.aload_n 0, 1) by decide +kernel) rfl, List.forall_mem_cons.mpr ⟨k_ild_n (show decode cL_areAlike 154 = .ok (.iload_n 3, 1) by decide +kernel) rfl, List.forall_mem_cons.mpr ⟨k_inv (M := mX6_why) (T := TX6) (N := 5) rfl rfl (show decode cL_areAlike 155 = .ok (.invokevirtual 57, 3) by decide +kernel) rfl (by decide) (by decide +kernel) (by decide) (gw3 142 rfl rfl) (gw3 139 rfl rfl) (gw3 140 rfl rfl) (gw3 141 rfl rfl) (gw1 1 rfl rfl) (fun _ h => absurd h List.not_mem_nil), List.forall_mem_cons.mpr ⟨k_ald_n (show decode cL_areAlike 158 = .ok (.aload_n 1, 1) by decide +kernel) rfl, List.forall_mem_cons.mpr ⟨k_ild_n (show decode cL_areAlike 159 = .ok (.iload_n 3, 1) by decide +kernel) rfl, List.forall_mem_cons.mpr ⟨k_inv (M := mX6_why) (T := TX6) (N := 5) rfl rfl (show decode cL_areAlike 160 = .ok (.invokevirtual 57, 3) by decide +kernel) rfl (by decide) (by decide +kernel) (by decide) (gw3 142 rfl rfl) (gw3 139 rfl rfl) (gw3 140 rfl rfl) (gw3 141 rfl rfl) (gw1 1 rfl rfl) (fun _ h => absurd h List.not_mem_nil), List.forall_mem_cons.mpr ⟨k_icmp_ne (show decode cL_areAlike 163 = .ok (.if_icmp .ne 20, 3) by decide +kernel) (by decide), List.forall_mem_cons.mpr ⟨k_ald_n (show decode cL_areAlike 166 = .ok (.aload_n 0, 1) by decide +kernel) rfl, List.forall_mem_cons.mpr ⟨k_ild_n (show decode cL_areAlike 167 = .ok (.iload_n 3, 1) by decide +kernel) rfl, List.forall_mem_cons.mpr ⟨k_inv (M := mX6_delayOf) (T := TX6) (N := 5) rfl rfl (show decode cL_areAlike 168 = .ok (.invokevirtual 60, 3) by decide +kernel) rfl (by decide) (by decide +kernel) (by decide) (gw3 147 rfl rfl) (gw3 144 rfl rfl) (gw3 145 rfl rfl) (gw3 146 rfl rfl) (gw1 1 rfl rfl) (fun _ h => absurd h List.not_mem_nil), List.forall_mem_cons.mpr ⟨k_ald_n (show decode cL_areAlike 171 = .ok (.aload_n 1, 1) by decide +kernel) rfl, List.forall_mem_cons.mpr ⟨k_ild_n (show decode cL_areAlike 172 = .ok (.iload_n 3, 1) by decide +kernel) rfl, List.forall_mem_cons.mpr ⟨k_inv (M := mX6_delayOf) (T := TX6) (N := 5) rfl rfl (show decode cL_areAlike 173 = .ok (.invokevirtual 60, 3) by decide +kernel) rfl (by decide) (by decide +kernel) (by decide) (gw3 147 rfl rfl) (gw3 144 rfl rfl) (gw3 145 rfl rfl) (gw3 146 rfl rfl) (gw1 1 rfl rfl) (fun _ h => absurd h List.not_mem_nil), List.forall_mem_cons.mpr ⟨k_icmp_ne (show decode cL_areAlike 176 = .ok (.if_icmp .ne 7, 3) by decide +kernel) (by decide), List.forall_mem_cons.mpr ⟨k_iconst (show decode cL_areAlike 179 = .ok (.iconst 1, 1) by decide +kernel) (by decide +kernel), List.forall_mem_cons.mpr ⟨k_goto (show decode cL_areAlike 180 = .ok (.goto 4, 3) by decide +kernel) (by decide), List.forall_mem_cons.mpr ⟨k_iconst (show decode cL_areAlike 183 = .ok (.iconst 0, 1) by decide +kernel) (by decide +kernel), List.forall_mem_cons.mpr ⟨k_ist_n (show decode cL_areAlike 184 = .ok (.istore_n 2, 1) by decide +kernel) rfl (by decide), List.forall_mem_cons.mpr ⟨k_iinc (show decode cL_areAlike 185 = .ok (.iinc 3 1, 3) by decide +kernel) (by decide +kernel) (by decide), List.forall_mem_cons.mpr ⟨k_goto (show decode cL_areAlike 188 = .ok (.goto (-120), 3) by decide +kernel) (by decide), List.forall_mem_cons.mpr ⟨k_iconst (show decode cL_areAlike 191 = .ok (.iconst 0, 1) by decide +kernel) (by decide +kernel), List.forall_mem_cons.mpr ⟨k_ist_n (show decode cL_areAlike 192 = .ok (.istore_n 3, 1) by decide +kernel) rfl (by decide), List.forall_mem_cons.mpr ⟨k_ild_n (show decode cL_areAlike 193 = .ok (.iload_n 3, 1) by decide +kernel) rfl, List.forall_mem_cons.mpr ⟨k_iconst (show decode cL_areAlike 194 = .ok (.iconst 4, 1) by decide +kernel) (by decide +kernel), List.forall_mem_cons.mpr ⟨k_icmp_ge (show decode cL_areAlike 195 = .ok (.if_icmp .ge 57, 3) by decide +kernel) (by decide), List.forall_mem_cons.mpr ⟨k_ild_n (show decode cL_areAlike 198 = .ok (.iload_n 2, 1) by decide +kernel) rfl, List.forall_mem_cons.mpr ⟨k_if_eq (show decode cL_areAlike 199 = .ok (.ifCond .eq 53, 3) by decide +kernel) (by decide), List.forall_mem_cons.mpr ⟨k_iconst (show decode cL_areAlike 202 = .ok (.iconst 0, 1) by decide +kernel) (by decide +kernel), List.forall_mem_cons.mpr ⟨k_ist (show decode cL_areAlike 203 = .ok (.istore 4, 2) by decide +kernel) (by decide), List.forall_mem_cons.mpr ⟨k_ild (show decode cL_areAlike 205 = .ok (.iload 4, 2) by decide +kernel), List.forall_mem_cons.mpr ⟨k_iconst (show decode cL_areAlike 207 = .ok (.iconst 4, 1) by decide +kernel) (by decide +kernel), List.forall_mem_cons.mpr ⟨k_icmp_ge (show decode cL_areAlike 208 = .ok (.if_icmp .ge 38, 3) by decide +kernel) (by decide), List.forall_mem_cons.mpr ⟨k_ild_n (show decode cL_areAlike 211 = .ok (.iload_n 2, 1) by decide +kernel) rfl, List.forall_mem_cons.mpr ⟨k_if_eq (show decode cL_areAlike 212 = .ok (.ifCond .eq 26, 3) by decide +kernel) (by decide), List.forall_mem_cons.mpr ⟨k_ald_n (show decode cL_areAlike 215 = .ok (.aload_n 0, 1) by decide +kernel) rfl, List.forall_mem_cons.mpr ⟨k_ild_n (show decode cL_areAlike 216 = .ok (.iload_n 3, 1) by decide +kernel) rfl, List.forall_mem_cons.mpr ⟨k_ild (show decode cL_areAlike 217 = .ok (.iload 4, 2) by decide +kernel), List.forall_mem_cons.mpr ⟨k_inv (M := mX6_stand) (T := TX6) (N := 5) rfl rfl (show decode cL_areAlike 219 = .ok (.invokevirtual 63, 3) by decide +kernel) rfl (by decide) (by decide +kernel) (by decide) (gw3 151 rfl rfl) (gw3 148 rfl rfl) (gw3 149 rfl rfl) (gw3 150 rfl rfl) (gw1 1 rfl rfl) (fun _ h => absurd h List.not_mem_nil), List.forall_mem_cons.mpr ⟨k_ald_n (show decode cL_areAlike 222 = .ok (.aload_n 1, 1) by decide +kernel) rfl, List.forall_mem_cons.mpr ⟨k_iconst (show decode cL_areAlike 223 = .ok (.iconst 3, 1) by decide +kernel) (by decide +kernel), fun _ h => absurd h List.not_mem_nil⟩⟩⟩⟩⟩⟩⟩⟩⟩⟩⟩⟩⟩⟩⟩⟩⟩⟩⟩⟩⟩⟩⟩⟩⟩⟩⟩⟩⟩⟩⟩⟩⟩⟩⟩⟩⟩⟩⟩⟩
set_option maxRecDepth 20000 in
theorem okL_areAlike_p4 : ∀ q ∈ jcL_areAlike_p4, JOk mtab cL_areAlike RL ("areAlike", []) 6 none q.1 q.2 := by
  unfold jcL_areAlike_p4
  exact List.forall_mem_cons.mpr ⟨k_ild_n (show decode cL_areAlike 224 = .ok (.iload_n 3, 1) by decide +kernel) rfl, List.forall_mem_cons.mpr ⟨k_isub (show decode cL_areAlike 225 = .ok (.isub, 1) by decide +kernel), List.forall_mem_cons.mpr ⟨k_ild (show decode cL_areAlike 226 = .ok (.iload 4, 2) by decide +kernel), List.forall_mem_cons.mpr ⟨k_inv (M := mX6_stand) (T := TX6) (N := 5) rfl rfl (show decode cL_areAlike 228 = .ok (.invokevirtual 63, 3) by decide +kernel) rfl (by decide) (by decide +kernel) (by decide) (gw3 151 rfl rfl) (gw3 148 rfl rfl) (gw3 149 rfl rfl) (gw3 150 rfl rfl) (gw1 1 rfl rfl) (fun _ h => absurd h List.not_mem_nil), List.forall_mem_cons.mpr ⟨k_icmp_ne (show decode cL_areAlike 231 = .ok (.if_icmp .ne 7, 3) by decide +kernel) (by decide), List.forall_mem_cons.mpr ⟨k_iconst (show decode cL_areAlike 234 = .ok (.iconst 1, 1) by decide +kernel) (by decide +kernel), List.forall_mem_cons.mpr ⟨k_goto (show decode cL_areAlike 235 = .ok (.goto 4, 3) by decide +kernel) (by decide), List.forall_mem_cons.mpr ⟨k_iconst (show decode cL_areAlike 238 = .ok (.iconst 0, 1) by decide +kernel) (by decide +kernel), List.forall_mem_cons.mpr ⟨k_ist_n (show decode cL_areAlike 239 = .ok (.istore_n 2, 1) by decide +kernel) rfl (by decide), List.forall_mem_cons.mpr ⟨k_iinc (show decode cL_areAlike 240 = .ok (.iinc 4 1, 3) by decide +kernel) (by decide +kernel) (by decide), List.forall_mem_cons.mpr ⟨k_goto (show decode cL_areAlike 243 = .ok (.goto (-38), 3) by decide +kernel) (by decide), List.forall_mem_cons.mpr ⟨k_iinc (show decode cL_areAlike 246 = .ok (.iinc 3 1, 3) by decide +kernel) (by decide +kernel) (by decide), List.forall_mem_cons.mpr ⟨k_goto (show decode cL_areAlike 249 = .ok (.goto (-56), 3) by decide +kernel) (by decide), List.forall_mem_cons.mpr ⟨k_iconst (show decode cL_areAlike 252 = .ok (.iconst 0, 1) by decide +kernel) (by decide +kernel), List.forall_mem_cons.mpr ⟨k_ist_n (show decode cL_areAlike 253 = .ok (.istore_n 3, 1) by decide +kernel) rfl (by decide), List.forall_mem_cons.mpr ⟨k_ild_n (show decode cL_areAlike 254 = .ok (.iload_n 3, 1) by decide +kernel) rfl, List.forall_mem_cons.mpr ⟨k_iconst (show decode cL_areAlike 255 = .ok (.iconst 3, 1) by decide +kernel) (by decide +kernel), List.forall_mem_cons.mpr ⟨k_icmp_ge (show decode cL_areAlike 256 = .ok (.if_icmp .ge 57, 3) by decide +kernel) (by decide), List.forall_mem_cons.mpr ⟨k_ild_n (show decode cL_areAlike 259 = .ok (.iload_n 2, 1) by decide +kernel) rfl, List.forall_mem_cons.mpr ⟨k_if_eq (show decode cL_areAlike 260 = .ok (.ifCond .eq 53, 3) by decide +kernel) (by decide), List.forall_mem_cons.mpr ⟨k_iconst (show decode cL_areAlike 263 = .ok (.iconst 0, 1) by decide +kernel) (by decide +kernel), List.forall_mem_cons.mpr ⟨k_ist (show decode cL_areAlike 264 = .ok (.istore 4, 2) by decide +kernel) (by decide), List.forall_mem_cons.mpr ⟨k_ild (show decode cL_areAlike 266 = .ok (.iload 4, 2) by decide +kernel), List.forall_mem_cons.mpr ⟨k_iconst (show decode cL_areAlike 268 = .ok (.iconst 5, 1) by decide +kernel) (by decide +kernel), List.forall_mem_cons.mpr ⟨k_icmp_ge (show decode cL_areAlike 269 = .ok (.if_icmp .ge 38, 3) by decide +kernel) (by decide), List.forall_mem_cons.mpr ⟨k_ild_n (show decode cL_areAlike 272 = .ok (.iload_n 2, 1) by decide +kernel) rfl, List.forall_mem_cons.mpr ⟨k_if_eq (show decode cL_areAlike 273 = .ok (.ifCond .eq 26, 3) by decide +kernel) (by decide), List.forall_mem_cons.mpr ⟨k_ald_n (show decode cL_areAlike 276 = .ok (.aload_n 0, 1) by decide +kernel) rfl, List.forall_mem_cons.mpr ⟨k_ild_n (show decode cL_areAlike 277 = .ok (.iload_n 3, 1) by decide +kernel) rfl, List.forall_mem_cons.mpr ⟨k_ild (show decode cL_areAlike 278 = .ok (.iload 4, 2) by decide +kernel), List.forall_mem_cons.mpr ⟨k_inv (M := mX6_tug) (T := TX6) (N := 5) rfl rfl (show decode cL_areAlike 280 = .ok (.invokevirtual 66, 3) by decide +kernel) rfl (by decide) (by decide +kernel) (by decide) (gw3 159 rfl rfl) (gw3 156 rfl rfl) (gw3 157 rfl rfl) (gw3 158 rfl rfl) (gw1 1 rfl rfl) (fun _ h => absurd h List.not_mem_nil), List.forall_mem_cons.mpr ⟨k_ald_n (show decode cL_areAlike 283 = .ok (.aload_n 1, 1) by decide +kernel) rfl, List.forall_mem_cons.mpr ⟨k_iconst (show decode cL_areAlike 284 = .ok (.iconst 2, 1) by decide +kernel) (by decide +kernel), List.forall_mem_cons.mpr ⟨k_ild_n (show decode cL_areAlike 285 = .ok (.iload_n 3, 1) by decide +kernel) rfl, List.forall_mem_cons.mpr ⟨k_isub (show decode cL_areAlike 286 = .ok (.isub, 1) by decide +kernel), List.forall_mem_cons.mpr ⟨k_ild (show decode cL_areAlike 287 = .ok (.iload 4, 2) by decide +kernel), List.forall_mem_cons.mpr ⟨k_inv (M := mX6_tug) (T := TX6) (N := 5) rfl rfl (show decode cL_areAlike 289 = .ok (.invokevirtual 66, 3) by decide +kernel) rfl (by decide) (by decide +kernel) (by decide) (gw3 159 rfl rfl) (gw3 156 rfl rfl) (gw3 157 rfl rfl) (gw3 158 rfl rfl) (gw1 1 rfl rfl) (fun _ h => absurd h List.not_mem_nil), List.forall_mem_cons.mpr ⟨k_icmp_ne (show decode cL_areAlike 292 = .ok (.if_icmp .ne 7, 3) by decide +kernel) (by decide), List.forall_mem_cons.mpr ⟨k_iconst (show decode cL_areAlike 295 = .ok (.iconst 1, 1) by decide +kernel) (by decide +kernel), List.forall_mem_cons.mpr ⟨k_goto (show decode cL_areAlike 296 = .ok (.goto 4, 3) by decide +kernel) (by decide), fun _ h => absurd h List.not_mem_nil⟩⟩⟩⟩⟩⟩⟩⟩⟩⟩⟩⟩⟩⟩⟩⟩⟩⟩⟩⟩⟩⟩⟩⟩⟩⟩⟩⟩⟩⟩⟩⟩⟩⟩⟩⟩⟩⟩⟩⟩
set_option maxRecDepth 20000 in
theorem okL_areAlike_p5 : ∀ q ∈ jcL_areAlike_p5, JOk mtab cL_areAlike RL ("areAlike", []) 6 none q.1 q.2 := by
  unfold jcL_areAlike_p5
  exact List.forall_mem_cons.mpr ⟨k_iconst (show decode cL_areAlike 299 = .ok (.iconst 0, 1) by decide +kernel) (by decide +kernel), List.forall_mem_cons.mpr ⟨k_ist_n (show decode cL_areAlike 300 = .ok (.istore_n 2, 1) by decide +kernel) rfl (by decide), List.forall_mem_cons.mpr ⟨k_iinc (show decode cL_areAlike 301 = .ok (.iinc 4 1, 3) by decide +kernel) (by decide +kernel) (by decide), List.forall_mem_cons.mpr ⟨k_goto (show decode cL_areAlike 304 = .ok (.goto (-38), 3) by decide +kernel) (by decide), List.forall_mem_cons.mpr ⟨k_iinc (show decode cL_areAlike 307 = .ok (.iinc 3 1, 3) by decide +kernel) (by decide +kernel) (by decide), List.forall_mem_cons.mpr ⟨k_goto (show decode cL_areAlike 310 = .ok (.goto (-56), 3) by decide +kernel) (by decide), List.forall_mem_cons.mpr ⟨k_ild_n (show decode cL_areAlike 313 = .ok (.iload_n 2, 1) by decide +kernel) rfl, List.forall_mem_cons.mpr ⟨k_iret (show decode cL_areAlike 314 = .ok (.ireturn, 1) by decide +kernel), fun _ h => absurd h List.not_mem_nil⟩⟩⟩⟩⟩⟩⟩⟩
theorem okL_areAlike : ∀ q ∈ jcL_areAlike, JOk mtab cL_areAlike RL ("areAlike", []) 6 none q.1 q.2 := by
  unfold jcL_areAlike
  exact List.forall_mem_append.mpr ⟨okL_areAlike_p1, List.forall_mem_append.mpr ⟨okL_areAlike_p2, List.forall_mem_append.mpr ⟨okL_areAlike_p3, List.forall_mem_append.mpr ⟨okL_areAlike_p4, okL_areAlike_p5⟩⟩⟩⟩
set_option maxRecDepth 20000 in
theorem okL_isSound_p1 : ∀ q ∈ jcL_isSound_p1, JOk mtab cL_isSound RL ("isSound", []) 8 none q.1 q.2 := by
  unfold jcL_isSound_p1
  exact List.forall_mem_cons.mpr ⟨k_iconst (show decode cL_isSound 0 = .ok (.iconst 0, 1) by decide +kernel) (by decide +kernel), List.forall_mem_cons.mpr ⟨k_ist_n (show decode cL_isSound 1 = .ok (.istore_n 1, 1) by decide +kernel) rfl (by decide), List.forall_mem_cons.mpr ⟨k_iconst (show decode cL_isSound 2 = .ok (.iconst 0, 1) by decide +kernel) (by decide +kernel), List.forall_mem_cons.mpr ⟨k_ist_n (show decode cL_isSound 3 = .ok (.istore_n 2, 1) by decide +kernel) rfl (by decide), List.forall_mem_cons.mpr ⟨k_iconst (show decode cL_isSound 4 = .ok (.iconst 0, 1) by decide +kernel) (by decide +kernel), List.forall_mem_cons.mpr ⟨k_ist_n (show decode cL_isSound 5 = .ok (.istore_n 3, 1) by decide +kernel) rfl (by decide), List.forall_mem_cons.mpr ⟨k_iconst (show decode cL_isSound 6 = .ok (.iconst 0, 1) by decide +kernel) (by decide +kernel), List.forall_mem_cons.mpr ⟨k_ist (show decode cL_isSound 7 = .ok (.istore 4, 2) by decide +kernel) (by decide), List.forall_mem_cons.mpr ⟨k_bipush (show decode cL_isSound 9 = .ok (.bipush 6, 2) by decide +kernel) (by decide +kernel), List.forall_mem_cons.mpr ⟨k_ist (show decode cL_isSound 11 = .ok (.istore 5, 2) by decide +kernel) (by decide), List.forall_mem_cons.mpr ⟨k_ild (show decode cL_isSound 13 = .ok (.iload 5, 2) by decide +kernel), List.forall_mem_cons.mpr ⟨k_bipush (show decode cL_isSound 15 = .ok (.bipush 12, 2) by decide +kernel) (by decide +kernel), List.forall_mem_cons.mpr ⟨k_icmp_ge (show decode cL_isSound 17 = .ok (.if_icmp .ge 18, 3) by decide +kernel) (by decide), List.forall_mem_cons.mpr ⟨k_ild_n (show decode cL_isSound 20 = .ok (.iload_n 1, 1) by decide +kernel) rfl, List.forall_mem_cons.mpr ⟨k_ald_n (show decode cL_isSound 21 = .ok (.aload_n 0, 1) by decide +kernel) rfl, List.forall_mem_cons.mpr ⟨k_ild (show decode cL_isSound 22 = .ok (.iload 5, 2) by decide +kernel), List.forall_mem_cons.mpr ⟨k_inv (M := mX6_value) (T := TX6) (N := 5) rfl rfl (show decode cL_isSound 24 = .ok (.invokevirtual 29, 3) by decide +kernel) rfl (by decide) (by decide +kernel) (by decide) (gw2 230 rfl rfl) (gw2 227 rfl rfl) (gw2 228 rfl rfl) (gw2 229 rfl rfl) (gw1 1 rfl rfl) (fun _ h => absurd h List.not_mem_nil), List.forall_mem_cons.mpr ⟨k_iadd (show decode cL_isSound 27 = .ok (.iadd, 1) by decide +kernel), List.forall_mem_cons.mpr ⟨k_ist_n (show decode cL_isSound 28 = .ok (.istore_n 1, 1) by decide +kernel) rfl (by decide), List.forall_mem_cons.mpr ⟨k_iinc (show decode cL_isSound 29 = .ok (.iinc 5 1, 3) by decide +kernel) (by decide +kernel) (by decide), List.forall_mem_cons.mpr ⟨k_goto (show decode cL_isSound 32 = .ok (.goto (-19), 3) by decide +kernel) (by decide), List.forall_mem_cons.mpr ⟨k_ild_n (show decode cL_isSound 35 = .ok (.iload_n 1, 1) by decide +kernel) rfl, List.forall_mem_cons.mpr ⟨k_ald_n (show decode cL_isSound 36 = .ok (.aload_n 0, 1) by decide +kernel) rfl, List.forall_mem_cons.mpr ⟨k_iconst (show decode cL_isSound 37 = .ok (.iconst 2, 1) by decide +kernel) (by decide +kernel), List.forall_mem_cons.mpr ⟨k_inv (M := mX6_value) (T := TX6) (N := 5) rfl rfl (show decode cL_isSound 38 = .ok (.invokevirtual 29, 3) by decide +kernel) rfl (by decide) (by decide +kernel) (by decide) (gw2 230 rfl rfl) (gw2 227 rfl rfl) (gw2 228 rfl rfl) (gw2 229 rfl rfl) (gw1 1 rfl rfl) (fun _ h => absurd h List.not_mem_nil), List.forall_mem_cons.mpr ⟨k_icmp_ne (show decode cL_isSound 41 = .ok (.if_icmp .ne 7, 3) by decide +kernel) (by decide), List.forall_mem_cons.mpr ⟨k_iconst (show decode cL_isSound 44 = .ok (.iconst 1, 1) by decide +kernel) (by decide +kernel), List.forall_mem_cons.mpr ⟨k_goto (show decode cL_isSound 45 = .ok (.goto 4, 3) by decide +kernel) (by decide), List.forall_mem_cons.mpr ⟨k_iconst (show decode cL_isSound 48 = .ok (.iconst 0, 1) by decide +kernel) (by decide +kernel), List.forall_mem_cons.mpr ⟨k_ist (show decode cL_isSound 49 = .ok (.istore 5, 2) by decide +kernel) (by decide), List.forall_mem_cons.mpr ⟨k_iconst (show decode cL_isSound 51 = .ok (.iconst 0, 1) by decide +kernel) (by decide +kernel), List.forall_mem_cons.mpr ⟨k_ist (show decode cL_isSound 52 = .ok (.istore 6, 2) by decide +kernel) (by decide), List.forall_mem_cons.mpr ⟨k_ild (show decode cL_isSound 54 = .ok (.iload 6, 2) by decide +kernel), List.forall_mem_cons.mpr ⟨k_iconst (show decode cL_isSound 56 = .ok (.iconst 4, 1) by decide +kernel) (by decide +kernel), List.forall_mem_cons.mpr ⟨k_icmp_ge (show decode cL_isSound 57 = .ok (.if_icmp .ge 134, 3) by decide +kernel) (by decide), List.forall_mem_cons.mpr ⟨k_ald_n (show decode cL_isSound 60 = .ok (.aload_n 0, 1) by decide +kernel) rfl, List.forall_mem_cons.mpr ⟨k_ild (show decode cL_isSound 61 = .ok (.iload 6, 2) by decide +kernel), List.forall_mem_cons.mpr ⟨k_iconst (show decode cL_isSound 63 = .ok (.iconst 1, 1) by decide +kernel) (by decide +kernel), List.forall_mem_cons.mpr ⟨k_inv (M := mX6_stand) (T := TX6) (N := 5) rfl rfl (show decode cL_isSound 64 = .ok (.invokevirtual 63, 3) by decide +kernel) rfl (by decide) (by decide +kernel) (by decide) (gw3 151 rfl rfl) (gw3 148 rfl rfl) (gw3 149 rfl rfl) (gw3 150 rfl rfl) (gw1 1 rfl rfl) (fun _ h => absurd h List.not_mem_nil), List.forall_mem_cons.mpr ⟨k_ist (show decode cL_isSound 67 = .ok (.istore 7, 2) by decide +kernel) (by decide), fun _ h => absurd h List.not_mem_nil⟩⟩⟩⟩⟩⟩⟩⟩⟩⟩⟩⟩⟩⟩⟩⟩⟩⟩⟩⟩⟩⟩⟩⟩⟩⟩⟩⟩⟩⟩⟩⟩⟩⟩⟩⟩⟩⟩⟩⟩
set_option maxRecDepth 20000 in
theorem okL_isSound_p2 : ∀ q ∈ jcL_isSound_p2, JOk mtab cL_isSound RL ("isSound", []) 8 none q.1 q.2 := by
  unfold jcL_isSound_p2
  exact List.forall_mem_cons.mpr ⟨k_ild_n (show decode cL_isSound 69 = .ok (.iload_n 3, 1) by decide +kernel) rfl, List.forall_mem_cons.mpr ⟨k_ald_n (show decode cL_isSound 70 = .ok (.aload_n 0, 1) by decide +kernel) rfl, List.forall_mem_cons.mpr ⟨k_ild (show decode cL_isSound 71 = .ok (.iload 6, 2) by decide +kernel), List.forall_mem_cons.mpr ⟨k_iconst (show decode cL_isSound 73 = .ok (.iconst 3, 1) by decide +kernel) (by decide +kernel), List.forall_mem_cons.mpr ⟨k_inv (M := mX6_stand) (T := TX6) (N := 5) rfl rfl (show decode cL_isSound 74 = .ok (.invokevirtual 63, 3) by decide +kernel) rfl (by decide) (by decide +kernel) (by decide) (gw3 151 rfl rfl) (gw3 148 rfl rfl) (gw3 149 rfl rfl) (gw3 150 rfl rfl) (gw1 1 rfl rfl) (fun _ h => absurd h List.not_mem_nil), List.forall_mem_cons.mpr ⟨k_iadd (show decode cL_isSound 77 = .ok (.iadd, 1) by decide +kernel), List.forall_mem_cons.mpr ⟨k_ist_n (show decode cL_isSound 78 = .ok (.istore_n 3, 1) by decide +kernel) rfl (by decide), List.forall_mem_cons.mpr ⟨k_ild (show decode cL_isSound 79 = .ok (.iload 5, 2) by decide +kernel), List.forall_mem_cons.mpr ⟨k_if_eq (show decode cL_isSound 81 = .ok (.ifCond .eq 63, 3) by decide +kernel) (by decide), List.forall_mem_cons.mpr ⟨k_ild (show decode cL_isSound 84 = .ok (.iload 7, 2) by decide +kernel), List.forall_mem_cons.mpr ⟨k_if_lt (show decode cL_isSound 86 = .ok (.ifCond .lt 33, 3) by decide +kernel) (by decide), List.forall_mem_cons.mpr ⟨k_ald_n (show decode cL_isSound 89 = .ok (.aload_n 0, 1) by decide +kernel) rfl, List.forall_mem_cons.mpr ⟨k_ild (show decode cL_isSound 90 = .ok (.iload 7, 2) by decide +kernel), List.forall_mem_cons.mpr ⟨k_bipush (show decode cL_isSound 92 = .ok (.bipush 6, 2) by decide +kernel) (by decide +kernel), List.forall_mem_cons.mpr ⟨k_inv (M := mX6_aircraft) (T := TX6) (N := 5) rfl rfl (show decode cL_isSound 94 = .ok (.invokevirtual 37, 3) by decide +kernel) rfl (by decide) (by decide +kernel) (by decide) (gw3 113 rfl rfl) (gw3 110 rfl rfl) (gw3 111 rfl rfl) (gw3 112 rfl rfl) (gw1 1 rfl rfl) (fun _ h => absurd h List.not_mem_nil), List.forall_mem_cons.mpr ⟨k_ild (show decode cL_isSound 97 = .ok (.iload 6, 2) by decide +kernel), List.forall_mem_cons.mpr ⟨k_icmp_ne (show decode cL_isSound 99 = .ok (.if_icmp .ne 45, 3) by decide +kernel) (by decide), List.forall_mem_cons.mpr ⟨k_ald_n (show decode cL_isSound 102 = .ok (.aload_n 0, 1) by decide +kernel) rfl, List.forall_mem_cons.mpr ⟨k_ild (show decode cL_isSound 103 = .ok (.iload 7, 2) by decide +kernel), List.forall_mem_cons.mpr ⟨k_iconst (show decode cL_isSound 105 = .ok (.iconst 0, 1) by decide +kernel) (by decide +kernel), List.forall_mem_cons.mpr ⟨k_inv (M := mX6_aircraft) (T := TX6) (N := 5) rfl rfl (show decode cL_isSound 106 = .ok (.invokevirtual 37, 3) by decide +kernel) rfl (by decide) (by decide +kernel) (by decide) (gw3 113 rfl rfl) (gw3 110 rfl rfl) (gw3 111 rfl rfl) (gw3 112 rfl rfl) (gw1 1 rfl rfl) (fun _ h => absurd h List.not_mem_nil), List.forall_mem_cons.mpr ⟨k_ald_n (show decode cL_isSound 109 = .ok (.aload_n 0, 1) by decide +kernel) rfl, List.forall_mem_cons.mpr ⟨k_ild (show decode cL_isSound 110 = .ok (.iload 6, 2) by decide +kernel), List.forall_mem_cons.mpr ⟨k_iconst (show decode cL_isSound 112 = .ok (.iconst 0, 1) by decide +kernel) (by decide +kernel), List.forall_mem_cons.mpr ⟨k_inv (M := mX6_stand) (T := TX6) (N := 5) rfl rfl (show decode cL_isSound 113 = .ok (.invokevirtual 63, 3) by decide +kernel) rfl (by decide) (by decide +kernel) (by decide) (gw3 151 rfl rfl) (gw3 148 rfl rfl) (gw3 149 rfl rfl) (gw3 150 rfl rfl) (gw1 1 rfl rfl) (fun _ h => absurd h List.not_mem_nil), List.forall_mem_cons.mpr ⟨k_icmp_gt (show decode cL_isSound 116 = .ok (.if_icmp .gt 28, 3) by decide +kernel) (by decide), List.forall_mem_cons.mpr ⟨k_ald_n (show decode cL_isSound 119 = .ok (.aload_n 0, 1) by decide +kernel) rfl, List.forall_mem_cons.mpr ⟨k_ild (show decode cL_isSound 120 = .ok (.iload 6, 2) by decide +kernel), List.forall_mem_cons.mpr ⟨k_iconst (show decode cL_isSound 122 = .ok (.iconst 2, 1) by decide +kernel) (by decide +kernel), List.forall_mem_cons.mpr ⟨k_inv (M := mX6_stand) (T := TX6) (N := 5) rfl rfl (show decode cL_isSound 123 = .ok (.invokevirtual 63, 3) by decide +kernel) rfl (by decide) (by decide +kernel) (by decide) (gw3 151 rfl rfl) (gw3 148 rfl rfl) (gw3 149 rfl rfl) (gw3 150 rfl rfl) (gw1 1 rfl rfl) (fun _ h => absurd h List.not_mem_nil), List.forall_mem_cons.mpr ⟨k_if_eq (show decode cL_isSound 126 = .ok (.ifCond .eq 14, 3) by decide +kernel) (by decide), List.forall_mem_cons.mpr ⟨k_ald_n (show decode cL_isSound 129 = .ok (.aload_n 0, 1) by decide +kernel) rfl, List.forall_mem_cons.mpr ⟨k_ild (show decode cL_isSound 130 = .ok (.iload 7, 2) by decide +kernel), List.forall_mem_cons.mpr ⟨k_iconst (show decode cL_isSound 132 = .ok (.iconst 5, 1) by decide +kernel) (by decide +kernel), List.forall_mem_cons.mpr ⟨k_inv (M := mX6_aircraft) (T := TX6) (N := 5) rfl rfl (show decode cL_isSound 133 = .ok (.invokevirtual 37, 3) by decide +kernel) rfl (by decide) (by decide +kernel) (by decide) (gw3 113 rfl rfl) (gw3 110 rfl rfl) (gw3 111 rfl rfl) (gw3 112 rfl rfl) (gw1 1 rfl rfl) (fun _ h => absurd h List.not_mem_nil), List.forall_mem_cons.mpr ⟨k_iconst (show decode cL_isSound 136 = .ok (.iconst 4, 1) by decide +kernel) (by decide +kernel), List.forall_mem_cons.mpr ⟨k_icmp_ne (show decode cL_isSound 137 = .ok (.if_icmp .ne 7, 3) by decide +kernel) (by decide), List.forall_mem_cons.mpr ⟨k_iconst (show decode cL_isSound 140 = .ok (.iconst 1, 1) by decide +kernel) (by decide +kernel), List.forall_mem_cons.mpr ⟨k_goto (show decode cL_isSound 141 = .ok (.goto 4, 3) by decide +kernel) (by decide), List.forall_mem_cons.mpr ⟨k_iconst (show decode cL_isSound 144 = .ok (.iconst 0, 1) by decide +kernel) (by decide +kernel), fun _ h => absurd h List.not_mem_nil⟩⟩⟩⟩⟩⟩⟩⟩⟩⟩⟩⟩⟩⟩⟩⟩⟩⟩⟩⟩⟩⟩⟩⟩⟩⟩⟩⟩⟩⟩⟩⟩⟩⟩⟩⟩⟩⟩⟩⟩
set_option maxRecDepth 20000 in
theorem okL_isSound_p3 : ∀ q ∈ jcL_isSound_p3, JOk mtab cL_isSound RL ("isSound", []) 8 none q.1 q.2 := by
  unfold jcL_isSound_p3
  exact List.forall_mem_cons.mpr ⟨k_ist (show decode cL_isSound 145 = .ok (.istore 5, 2) by decide +kernel) (by decide), List.forall_mem_cons.mpr ⟨k_ild (show decode cL_isSound 147 = .ok (.iload 5, 2) by decide +kernel), List.forall_mem_cons.mpr ⟨k_if_eq (show decode cL_isSound 149 = .ok (.ifCond .eq 33, 3) by decide +kernel) (by decide), List.forall_mem_cons.mpr ⟨k_ild (show decode cL_isSound 152 = .ok (.iload 6, 2) by decide +kernel), List.forall_mem_cons.mpr ⟨k_if_eq (show decode cL_isSound 154 = .ok (.ifCond .eq 24, 3) by decide +kernel) (by decide), List.forall_mem_cons.mpr ⟨k_ald_n (show decode cL_isSound 157 = .ok (.aload_n 0, 1) by decide +kernel) rfl, List.forall_mem_cons.mpr ⟨k_ild (show decode cL_isSound 158 = .ok (.iload 6, 2) by decide +kernel), List.forall_mem_cons.mpr ⟨k_iconst (show decode cL_isSound 160 = .ok (.iconst 2, 1) by decide +kernel) (by decide +kernel), List.forall_mem_cons.mpr ⟨k_inv (M := mX6_stand) (T := TX6) (N := 5) rfl rfl (show decode cL_isSound 161 = .ok (.invokevirtual 63, 3) by decide +kernel) rfl (by decide) (by decide +kernel) (by decide) (gw3 151 rfl rfl) (gw3 148 rfl rfl) (gw3 149 rfl rfl) (gw3 150 rfl rfl) (gw1 1 rfl rfl) (fun _ h => absurd h List.not_mem_nil), List.forall_mem_cons.mpr ⟨k_ald_n (show decode cL_isSound 164 = .ok (.aload_n 0, 1) by decide +kernel) rfl, List.forall_mem_cons.mpr ⟨k_ild (show decode cL_isSound 165 = .ok (.iload 6, 2) by decide +kernel), List.forall_mem_cons.mpr ⟨k_iconst (show decode cL_isSound 167 = .ok (.iconst 1, 1) by decide +kernel) (by decide +kernel), List.forall_mem_cons.mpr ⟨k_isub (show decode cL_isSound 168 = .ok (.isub, 1) by decide +kernel), List.forall_mem_cons.mpr ⟨k_iconst (show decode cL_isSound 169 = .ok (.iconst 2, 1) by decide +kernel) (by decide +kernel), List.forall_mem_cons.mpr ⟨k_inv (M := mX6_stand) (T := TX6) (N := 5) rfl rfl (show decode cL_isSound 170 = .ok (.invokevirtual 63, 3) by decide +kernel) rfl (by decide) (by decide +kernel) (by decide) (gw3 151 rfl rfl) (gw3 148 rfl rfl) (gw3 149 rfl rfl) (gw3 150 rfl rfl) (gw1 1 rfl rfl) (fun _ h => absurd h List.not_mem_nil), List.forall_mem_cons.mpr ⟨k_iadd (show decode cL_isSound 173 = .ok (.iadd, 1) by decide +kernel), List.forall_mem_cons.mpr ⟨k_iconst (show decode cL_isSound 174 = .ok (.iconst 2, 1) by decide +kernel) (by decide +kernel), List.forall_mem_cons.mpr ⟨k_icmp_ge (show decode cL_isSound 175 = .ok (.if_icmp .ge 7, 3) by decide +kernel) (by decide), List.forall_mem_cons.mpr ⟨k_iconst (show decode cL_isSound 178 = .ok (.iconst 1, 1) by decide +kernel) (by decide +kernel), List.forall_mem_cons.mpr ⟨k_goto (show decode cL_isSound 179 = .ok (.goto 4, 3) by decide +kernel) (by decide), List.forall_mem_cons.mpr ⟨k_iconst (show decode cL_isSound 182 = .ok (.iconst 0, 1) by decide +kernel) (by decide +kernel), List.forall_mem_cons.mpr ⟨k_ist (show decode cL_isSound 183 = .ok (.istore 5, 2) by decide +kernel) (by decide), List.forall_mem_cons.mpr ⟨k_iinc (show decode cL_isSound 185 = .ok (.iinc 6 1, 3) by decide +kernel) (by decide +kernel) (by decide), List.forall_mem_cons.mpr ⟨k_goto (show decode cL_isSound 188 = .ok (.goto (-134), 3) by decide +kernel) (by decide), List.forall_mem_cons.mpr ⟨k_iconst (show decode cL_isSound 191 = .ok (.iconst 0, 1) by decide +kernel) (by decide +kernel), List.forall_mem_cons.mpr ⟨k_ist (show decode cL_isSound 192 = .ok (.istore 6, 2) by decide +kernel) (by decide), List.forall_mem_cons.mpr ⟨k_ild (show decode cL_isSound 194 = .ok (.iload 6, 2) by decide +kernel), List.forall_mem_cons.mpr ⟨k_ald_n (show decode cL_isSound 196 = .ok (.aload_n 0, 1) by decide +kernel) rfl, List.forall_mem_cons.mpr ⟨k_iconst (show decode cL_isSound 197 = .ok (.iconst 2, 1) by decide +kernel) (by decide +kernel), List.forall_mem_cons.mpr ⟨k_inv (M := mX6_value) (T := TX6) (N := 5) rfl rfl (show decode cL_isSound 198 = .ok (.invokevirtual 29, 3) by decide +kernel) rfl (by decide) (by decide +kernel) (by decide) (gw2 230 rfl rfl) (gw2 227 rfl rfl) (gw2 228 rfl rfl) (gw2 229 rfl rfl) (gw1 1 rfl rfl) (fun _ h => absurd h List.not_mem_nil), List.forall_mem_cons.mpr ⟨k_icmp_ge (show decode cL_isSound 201 = .ok (.if_icmp .ge 80, 3) by decide +kernel) (by decide), List.forall_mem_cons.mpr ⟨k_ild_n (show decode cL_isSound 204 = .ok (.iload_n 2, 1) by decide +kernel) rfl, List.forall_mem_cons.mpr ⟨k_ald_n (show decode cL_isSound 205 = .ok (.aload_n 0, 1) by decide +kernel) rfl, List.forall_mem_cons.mpr ⟨k_ild (show decode cL_isSound 206 = .ok (.iload 6, 2) by decide +kernel), List.forall_mem_cons.mpr ⟨k_bipush (show decode cL_isSound 208 = .ok (.bipush 8, 2) by decide +kernel) (by decide +kernel), List.forall_mem_cons.mpr ⟨k_inv (M := mX6_aircraft) (T := TX6) (N := 5) rfl rfl (show decode cL_isSound 210 = .ok (.invokevirtual 37, 3) by decide +kernel) rfl (by decide) (by decide +kernel) (by decide) (gw3 113 rfl rfl) (gw3 110 rfl rfl) (gw3 111 rfl rfl) (gw3 112 rfl rfl) (gw1 1 rfl rfl) (fun _ h => absurd h List.not_mem_nil), List.forall_mem_cons.mpr ⟨k_iadd (show decode cL_isSound 213 = .ok (.iadd, 1) by decide +kernel), List.forall_mem_cons.mpr ⟨k_ist_n (show decode cL_isSound 214 = .ok (.istore_n 2, 1) by decide +kernel) rfl (by decide), List.forall_mem_cons.mpr ⟨k_ild (show decode cL_isSound 215 = .ok (.iload 4, 2) by decide +kernel), List.forall_mem_cons.mpr ⟨k_ald_n (show decode cL_isSound 217 = .ok (.aload_n 0, 1) by decide +kernel) rfl, fun _ h => absurd h List.not_mem_nil⟩⟩⟩⟩⟩⟩⟩⟩⟩⟩⟩⟩⟩⟩⟩⟩⟩⟩⟩⟩⟩⟩⟩⟩⟩⟩⟩⟩⟩⟩⟩⟩⟩⟩⟩⟩⟩⟩⟩⟩
set_option maxRecDepth 20000 in
theorem okL_isSound_p4 : ∀ q ∈ jcL_isSound_p4, JOk mtab cL_isSound RL ("isSound", []) 8 none q.1 q.2 := by
  unfold jcL_isSound_p4
  exact List.forall_mem_cons.mpr ⟨k_ild (show decode cL_isSound 218 = .ok (.iload 6, 2) by decide +kernel), List.forall_mem_cons.mpr ⟨k_bipush (show decode cL_isSound 220 = .ok (.bipush 9, 2) by decide +kernel) (by decide +kernel), List.forall_mem_cons.mpr ⟨k_inv (M := mX6_aircraft) (T := TX6) (N := 5) rfl rfl (show decode cL_isSound 222 = .ok (.invokevirtual 37, 3) by decide +kernel) rfl (by decide) (by decide +kernel) (by decide) (gw3 113 rfl rfl) (gw3 110 rfl rfl) (gw3 111 rfl rfl) (gw3 112 rfl rfl) (gw1 1 rfl rfl) (fun _ h => absurd h List.not_mem_nil), List.forall_mem_cons.mpr ⟨k_iadd (show decode cL_isSound 225 = .ok (.iadd, 1) by decide +kernel), List.forall_mem_cons.mpr ⟨k_ist (show decode cL_isSound 226 = .ok (.istore 4, 2) by decide +kernel) (by decide), List.forall_mem_cons.mpr ⟨k_ild (show decode cL_isSound 228 = .ok (.iload 5, 2) by decide +kernel), List.forall_mem_cons.mpr ⟨k_if_eq (show decode cL_isSound 230 = .ok (.ifCond .eq 42, 3) by decide +kernel) (by decide), List.forall_mem_cons.mpr ⟨k_ald_n (show decode cL_isSound 233 = .ok (.aload_n 0, 1) by decide +kernel) rfl, List.forall_mem_cons.mpr ⟨k_ild (show decode cL_isSound 234 = .ok (.iload 6, 2) by decide +kernel), List.forall_mem_cons.mpr ⟨k_bipush (show decode cL_isSound 236 = .ok (.bipush 7, 2) by decide +kernel) (by decide +kernel), List.forall_mem_cons.mpr ⟨k_inv (M := mX6_aircraft) (T := TX6) (N := 5) rfl rfl (show decode cL_isSound 238 = .ok (.invokevirtual 37, 3) by decide +kernel) rfl (by decide) (by decide +kernel) (by decide) (gw3 113 rfl rfl) (gw3 110 rfl rfl) (gw3 111 rfl rfl) (gw3 112 rfl rfl) (gw1 1 rfl rfl) (fun _ h => absurd h List.not_mem_nil), List.forall_mem_cons.mpr ⟨k_if_lt (show decode cL_isSound 241 = .ok (.ifCond .lt 7, 3) by decide +kernel) (by decide), List.forall_mem_cons.mpr ⟨k_iconst (show decode cL_isSound 244 = .ok (.iconst 1, 1) by decide +kernel) (by decide +kernel), List.forall_mem_cons.mpr ⟨k_goto (show decode cL_isSound 245 = .ok (.goto 4, 3) by decide +kernel) (by decide), List.forall_mem_cons.mpr ⟨k_iconst (show decode cL_isSound 248 = .ok (.iconst 0, 1) by decide +kernel) (by decide +kernel), List.forall_mem_cons.mpr ⟨k_ald_n (show decode cL_isSound 249 = .ok (.aload_n 0, 1) by decide +kernel) rfl, List.forall_mem_cons.mpr ⟨k_ild (show decode cL_isSound 250 = .ok (.iload 6, 2) by decide +kernel), List.forall_mem_cons.mpr ⟨k_iconst (show decode cL_isSound 252 = .ok (.iconst 5, 1) by decide +kernel) (by decide +kernel), List.forall_mem_cons.mpr ⟨k_inv (M := mX6_aircraft) (T := TX6) (N := 5) rfl rfl (show decode cL_isSound 253 = .ok (.invokevirtual 37, 3) by decide +kernel) rfl (by decide) (by decide +kernel) (by decide) (gw3 113 rfl rfl) (gw3 110 rfl rfl) (gw3 111 rfl rfl) (gw3 112 rfl rfl) (gw1 1 rfl rfl) (fun _ h => absurd h List.not_mem_nil), List.forall_mem_cons.mpr ⟨k_iconst (show decode cL_isSound 256 = .ok (.iconst 3, 1) by decide +kernel) (by decide +kernel), List.forall_mem_cons.mpr ⟨k_icmp_le (show decode cL_isSound 257 = .ok (.if_icmp .le 7, 3) by decide +kernel) (by decide), List.forall_mem_cons.mpr ⟨k_iconst (show decode cL_isSound 260 = .ok (.iconst 1, 1) by decide +kernel) (by decide +kernel), List.forall_mem_cons.mpr ⟨k_goto (show decode cL_isSound 261 = .ok (.goto 4, 3) by decide +kernel) (by decide), List.forall_mem_cons.mpr ⟨k_iconst (show decode cL_isSound 264 = .ok (.iconst 0, 1) by decide +kernel) (by decide +kernel), List.forall_mem_cons.mpr ⟨k_icmp_ne (show decode cL_isSound 265 = .ok (.if_icmp .ne 7, 3) by decide +kernel) (by decide), List.forall_mem_cons.mpr ⟨k_iconst (show decode cL_isSound 268 = .ok (.iconst 1, 1) by decide +kernel) (by decide +kernel), List.forall_mem_cons.mpr ⟨k_goto (show decode cL_isSound 269 = .ok (.goto 4, 3) by decide +kernel) (by decide), List.forall_mem_cons.mpr ⟨k_iconst (show decode cL_isSound 272 = .ok (.iconst 0, 1) by decide +kernel) (by decide +kernel), List.forall_mem_cons.mpr ⟨k_ist (show decode cL_isSound 273 = .ok (.istore 5, 2) by decide +kernel) (by decide), List.forall_mem_cons.mpr ⟨k_iinc (show decode cL_isSound 275 = .ok (.iinc 6 1, 3) by decide +kernel) (by decide +kernel) (by decide), List.forall_mem_cons.mpr ⟨k_goto (show decode cL_isSound 278 = .ok (.goto (-84), 3) by decide +kernel) (by decide), List.forall_mem_cons.mpr ⟨k_iconst (show decode cL_isSound 281 = .ok (.iconst 0, 1) by decide +kernel) (by decide +kernel), List.forall_mem_cons.mpr ⟨k_ist (show decode cL_isSound 282 = .ok (.istore 6, 2) by decide +kernel) (by decide), List.forall_mem_cons.mpr ⟨k_ild (show decode cL_isSound 284 = .ok (.iload 6, 2) by decide +kernel), List.forall_mem_cons.mpr ⟨k_iconst (show decode cL_isSound 286 = .ok (.iconst 3, 1) by decide +kernel) (by decide +kernel), List.forall_mem_cons.mpr ⟨k_icmp_ge (show decode cL_isSound 287 = .ok (.if_icmp .ge 75, 3) by decide +kernel) (by decide), List.forall_mem_cons.mpr ⟨k_ald_n (show decode cL_isSound 290 = .ok (.aload_n 0, 1) by decide +kernel) rfl, List.forall_mem_cons.mpr ⟨k_ild (show decode cL_isSound 291 = .ok (.iload 6, 2) by decide +kernel), List.forall_mem_cons.mpr ⟨k_iconst (show decode cL_isSound 293 = .ok (.iconst 1, 1) by decide +kernel) (by decide +kernel), List.forall_mem_cons.mpr ⟨k_inv (M := mX6_tug) (T := TX6) (N := 5) rfl rfl (show decode cL_isSound 294 = .ok (.invokevirtual 66, 3) by decide +kernel) rfl (by decide) (by decide +kernel) (by decide) (gw3 159 rfl rfl) (gw3 156 rfl rfl) (gw3 157 rfl rfl) (gw3 158 rfl rfl) (gw1 1 rfl rfl) (fun _ h => absurd h List.not_mem_nil), fun _ h => absurd h List.not_mem_nil⟩⟩⟩⟩⟩⟩⟩⟩⟩⟩⟩⟩⟩⟩⟩⟩⟩⟩⟩⟩⟩⟩⟩⟩⟩⟩⟩⟩⟩⟩⟩⟩⟩⟩⟩⟩⟩⟩⟩⟩
set_option maxRecDepth 20000 in
theorem okL_isSound_p5 : ∀ q ∈ jcL_isSound_p5, JOk mtab cL_isSound RL ("isSound", []) 8 none q.1 q.2 := by
  unfold jcL_isSound_p5
  exact List.forall_mem_cons.mpr ⟨k_ist (show decode cL_isSound 297 = .ok (.istore 7, 2) by decide +kernel) (by decide), List.forall_mem_cons.mpr ⟨k_ild (show decode cL_isSound 299 = .ok (.iload 5, 2) by decide +kernel), List.forall_mem_cons.mpr ⟨k_if_eq (show decode cL_isSound 301 = .ok (.ifCond .eq 52, 3) by decide +kernel) (by decide), List.forall_mem_cons.mpr ⟨k_ild (show decode cL_isSound 304 = .ok (.iload 7, 2) by decide +kernel), List.forall_mem_cons.mpr ⟨k_if_ge (show decode cL_isSound 306 = .ok (.ifCond .ge 16, 3) by decide +kernel) (by decide), List.forall_mem_cons.mpr ⟨k_ald_n (show decode cL_isSound 309 = .ok (.aload_n 0, 1) by decide +kernel) rfl, List.forall_mem_cons.mpr ⟨k_ild (show decode cL_isSound 310 = .ok (.iload 6, 2) by decide +kernel), List.forall_mem_cons.mpr ⟨k_iconst (show decode cL_isSound 312 = .ok (.iconst 2, 1) by decide +kernel) (by decide +kernel), List.forall_mem_cons.mpr ⟨k_inv (M := mX6_tug) (T := TX6) (N := 5) rfl rfl (show decode cL_isSound 313 = .ok (.invokevirtual 66, 3) by decide +kernel) rfl (by decide) (by decide +kernel) (by decide) (gw3 159 rfl rfl) (gw3 156 rfl rfl) (gw3 157 rfl rfl) (gw3 158 rfl rfl) (gw1 1 rfl rfl) (fun _ h => absurd h List.not_mem_nil), List.forall_mem_cons.mpr ⟨k_if_ne (show decode cL_isSound 316 = .ok (.ifCond .ne 37, 3) by decide +kernel) (by decide), List.forall_mem_cons.mpr ⟨k_goto (show decode cL_isSound 319 = .ok (.goto 30, 3) by decide +kernel) (by decide), List.forall_mem_cons.mpr ⟨k_ald_n (show decode cL_isSound 322 = .ok (.aload_n 0, 1) by decide +kernel) rfl, List.forall_mem_cons.mpr ⟨k_ild (show decode cL_isSound 323 = .ok (.iload 6, 2) by decide +kernel), List.forall_mem_cons.mpr ⟨k_iconst (show decode cL_isSound 325 = .ok (.iconst 2, 1) by decide +kernel) (by decide +kernel), List.forall_mem_cons.mpr ⟨k_inv (M := mX6_tug) (T := TX6) (N := 5) rfl rfl (show decode cL_isSound 326 = .ok (.invokevirtual 66, 3) by decide +kernel) rfl (by decide) (by decide +kernel) (by decide) (gw3 159 rfl rfl) (gw3 156 rfl rfl) (gw3 157 rfl rfl) (gw3 158 rfl rfl) (gw1 1 rfl rfl) (fun _ h => absurd h List.not_mem_nil), List.forall_mem_cons.mpr ⟨k_if_le (show decode cL_isSound 329 = .ok (.ifCond .le 24, 3) by decide +kernel) (by decide), List.forall_mem_cons.mpr ⟨k_ald_n (show decode cL_isSound 332 = .ok (.aload_n 0, 1) by decide +kernel) rfl, List.forall_mem_cons.mpr ⟨k_ild (show decode cL_isSound 333 = .ok (.iload 6, 2) by decide +kernel), List.forall_mem_cons.mpr ⟨k_iconst (show decode cL_isSound 335 = .ok (.iconst 0, 1) by decide +kernel) (by decide +kernel), List.forall_mem_cons.mpr ⟨k_inv (M := mX6_tug) (T := TX6) (N := 5) rfl rfl (show decode cL_isSound 336 = .ok (.invokevirtual 66, 3) by decide +kernel) rfl (by decide) (by decide +kernel) (by decide) (gw3 159 rfl rfl) (gw3 156 rfl rfl) (gw3 157 rfl rfl) (gw3 158 rfl rfl) (gw1 1 rfl rfl) (fun _ h => absurd h List.not_mem_nil), List.forall_mem_cons.mpr ⟨k_ald_n (show decode cL_isSound 339 = .ok (.aload_n 0, 1) by decide +kernel) rfl, List.forall_mem_cons.mpr ⟨k_ild (show decode cL_isSound 340 = .ok (.iload 7, 2) by decide +kernel), List.forall_mem_cons.mpr ⟨k_iconst (show decode cL_isSound 342 = .ok (.iconst 1, 1) by decide +kernel) (by decide +kernel), List.forall_mem_cons.mpr ⟨k_inv (M := mX6_aircraft) (T := TX6) (N := 5) rfl rfl (show decode cL_isSound 343 = .ok (.invokevirtual 37, 3) by decide +kernel) rfl (by decide) (by decide +kernel) (by decide) (gw3 113 rfl rfl) (gw3 110 rfl rfl) (gw3 111 rfl rfl) (gw3 112 rfl rfl) (gw1 1 rfl rfl) (fun _ h => absurd h List.not_mem_nil), List.forall_mem_cons.mpr ⟨k_icmp_lt (show decode cL_isSound 346 = .ok (.if_icmp .lt 7, 3) by decide +kernel) (by decide), List.forall_mem_cons.mpr ⟨k_iconst (show decode cL_isSound 349 = .ok (.iconst 1, 1) by decide +kernel) (by decide +kernel), List.forall_mem_cons.mpr ⟨k_goto (show decode cL_isSound 350 = .ok (.goto 4, 3) by decide +kernel) (by decide), List.forall_mem_cons.mpr ⟨k_iconst (show decode cL_isSound 353 = .ok (.iconst 0, 1) by decide +kernel) (by decide +kernel), List.forall_mem_cons.mpr ⟨k_ist (show decode cL_isSound 354 = .ok (.istore 5, 2) by decide +kernel) (by decide), List.forall_mem_cons.mpr ⟨k_iinc (show decode cL_isSound 356 = .ok (.iinc 6 1, 3) by decide +kernel) (by decide +kernel) (by decide), List.forall_mem_cons.mpr ⟨k_goto (show decode cL_isSound 359 = .ok (.goto (-75), 3) by decide +kernel) (by decide), List.forall_mem_cons.mpr ⟨k_ild (show decode cL_isSound 362 = .ok (.iload 5, 2) by decide +kernel), List.forall_mem_cons.mpr ⟨k_if_eq (show decode cL_isSound 364 = .ok (.ifCond .eq 23, 3) by decide +kernel) (by decide), List.forall_mem_cons.mpr ⟨k_ild_n (show decode cL_isSound 367 = .ok (.iload_n 2, 1) by decide +kernel) rfl, List.forall_mem_cons.mpr ⟨k_ild_n (show decode cL_isSound 368 = .ok (.iload_n 3, 1) by decide +kernel) rfl, List.forall_mem_cons.mpr ⟨k_icmp_ne (show decode cL_isSound 369 = .ok (.if_icmp .ne 18, 3) by decide +kernel) (by decide), List.forall_mem_cons.mpr ⟨k_ild (show decode cL_isSound 372 = .ok (.iload 4, 2) by decide +kernel), List.forall_mem_cons.mpr ⟨k_ald_n (show decode cL_isSound 374 = .ok (.aload_n 0, 1) by decide +kernel) rfl, List.forall_mem_cons.mpr ⟨k_bipush (show decode cL_isSound 375 = .ok (.bipush 14, 2) by decide +kernel) (by decide +kernel), List.forall_mem_cons.mpr ⟨k_inv (M := mX6_value) (T := TX6) (N := 5) rfl rfl (show decode cL_isSound 377 = .ok (.invokevirtual 29, 3) by decide +kernel) rfl (by decide) (by decide +kernel) (by decide) (gw2 230 rfl rfl) (gw2 227 rfl rfl) (gw2 228 rfl rfl) (gw2 229 rfl rfl) (gw1 1 rfl rfl) (fun _ h => absurd h List.not_mem_nil), fun _ h => absurd h List.not_mem_nil⟩⟩⟩⟩⟩⟩⟩⟩⟩⟩⟩⟩⟩⟩⟩⟩⟩⟩⟩⟩⟩⟩⟩⟩⟩⟩⟩⟩⟩⟩⟩⟩⟩⟩⟩⟩⟩⟩⟩⟩
set_option maxRecDepth 20000 in
theorem okL_isSound_p6 : ∀ q ∈ jcL_isSound_p6, JOk mtab cL_isSound RL ("isSound", []) 8 none q.1 q.2 := by
  unfold jcL_isSound_p6
  exact List.forall_mem_cons.mpr ⟨k_icmp_ne (show decode cL_isSound 380 = .ok (.if_icmp .ne 7, 3) by decide +kernel) (by decide), List.forall_mem_cons.mpr ⟨k_iconst (show decode cL_isSound 383 = .ok (.iconst 1, 1) by decide +kernel) (by decide +kernel), List.forall_mem_cons.mpr ⟨k_goto (show decode cL_isSound 384 = .ok (.goto 4, 3) by decide +kernel) (by decide), List.forall_mem_cons.mpr ⟨k_iconst (show decode cL_isSound 387 = .ok (.iconst 0, 1) by decide +kernel) (by decide +kernel), List.forall_mem_cons.mpr ⟨k_iret (show decode cL_isSound 388 = .ok (.ireturn, 1) by decide +kernel), fun _ h => absurd h List.not_mem_nil⟩⟩⟩⟩⟩
theorem okL_isSound : ∀ q ∈ jcL_isSound, JOk mtab cL_isSound RL ("isSound", []) 8 none q.1 q.2 := by
  unfold jcL_isSound
  exact List.forall_mem_append.mpr ⟨okL_isSound_p1, List.forall_mem_append.mpr ⟨okL_isSound_p2, List.forall_mem_append.mpr ⟨okL_isSound_p3, List.forall_mem_append.mpr ⟨okL_isSound_p4, List.forall_mem_append.mpr ⟨okL_isSound_p5, okL_isSound_p6⟩⟩⟩⟩⟩
set_option maxRecDepth 20000 in
theorem okL_law_p1 (L : Nat) (xs : Nat → Int32) : ∀ q ∈ jcL_law_p1 L xs, JOk mtab cL_law RL ("law", []) 7 (some (L, xs)) q.1 q.2 := by
  unfold jcL_law_p1
  exact List.forall_mem_cons.mpr ⟨k_new (C := RX6) (T := TX6) (show decode cL_law 0 = .ok (.new 10, 3) by decide +kernel) rfl inX6 tyX6_ok (by decide +kernel) (fun _ => rfl) (fun n => List.forall_mem_cons.mpr ⟨trivial, List.forall_mem_cons.mpr ⟨trivial, List.forall_mem_cons.mpr ⟨trivial, List.forall_mem_cons.mpr ⟨trivial, List.forall_mem_cons.mpr ⟨trivial, fun _ h => absurd h List.not_mem_nil⟩⟩⟩⟩⟩) (gw1 16 rfl rfl) (gw1 17 rfl rfl) (gw1 1 rfl rfl), List.forall_mem_cons.mpr ⟨k_dup (show decode cL_law 3 = .ok (.dup, 1) by decide +kernel), List.forall_mem_cons.mpr ⟨k_ini (M := mX6_init) rfl rfl rfl rfl (show decode cL_law 4 = .ok (.invokespecial 69, 3) by decide +kernel) (by decide +kernel) (by decide) (gw1 20 rfl rfl) (gw1 18 rfl rfl) (gw1 19 rfl rfl) (gw1 1 rfl rfl), List.forall_mem_cons.mpr ⟨k_ast_n (show decode cL_law 7 = .ok (.astore_n 1, 1) by decide +kernel) rfl (by decide), List.forall_mem_cons.mpr ⟨k_new (C := RX6) (T := TX6) (show decode cL_law 8 = .ok (.new 10, 3) by decide +kernel) rfl inX6 tyX6_ok (by decide +kernel) (fun _ => rfl) (fun n => List.forall_mem_cons.mpr ⟨trivial, List.forall_mem_cons.mpr ⟨trivial, List.forall_mem_cons.mpr ⟨trivial, List.forall_mem_cons.mpr ⟨trivial, List.forall_mem_cons.mpr ⟨trivial, fun _ h => absurd h List.not_mem_nil⟩⟩⟩⟩⟩) (gw1 16 rfl rfl) (gw1 17 rfl rfl) (gw1 1 rfl rfl), List.forall_mem_cons.mpr ⟨k_dup (show decode cL_law 11 = .ok (.dup, 1) by decide +kernel), List.forall_mem_cons.mpr ⟨k_ini (M := mX6_init) rfl rfl rfl rfl (show decode cL_law 12 = .ok (.invokespecial 69, 3) by decide +kernel) (by decide +kernel) (by decide) (gw1 20 rfl rfl) (gw1 18 rfl rfl) (gw1 19 rfl rfl) (gw1 1 rfl rfl), List.forall_mem_cons.mpr ⟨k_ast_n (show decode cL_law 15 = .ok (.astore_n 2, 1) by decide +kernel) rfl (by decide), List.forall_mem_cons.mpr ⟨k_ald_n (show decode cL_law 16 = .ok (.aload_n 1, 1) by decide +kernel) rfl, List.forall_mem_cons.mpr ⟨k_ald_n (show decode cL_law 17 = .ok (.aload_n 2, 1) by decide +kernel) rfl, List.forall_mem_cons.mpr ⟨k_ald_n (show decode cL_law 18 = .ok (.aload_n 0, 1) by decide +kernel) rfl, List.forall_mem_cons.mpr ⟨k_iconst (show decode cL_law 19 = .ok (.iconst 0, 1) by decide +kernel) (by decide +kernel), List.forall_mem_cons.mpr ⟨k_cell (show decode cL_law 20 = .ok (.invokestatic 70, 3) by decide +kernel) (gw3 34 rfl rfl) (gw3 32 rfl rfl) (gw3 33 rfl rfl) (gw1 0 rfl rfl) (gw3 35 rfl rfl), List.forall_mem_cons.mpr ⟨k_ins (M := mL_fields) rfl rfl (show decode cL_law 23 = .ok (.invokestatic 74, 3) by decide +kernel) (by decide +kernel) (by decide) (gw3 38 rfl rfl) (gw3 36 rfl rfl) (gw3 37 rfl rfl) (gw1 0 rfl rfl), List.forall_mem_cons.mpr ⟨k_ist_n (show decode cL_law 26 = .ok (.istore_n 3, 1) by decide +kernel) rfl (by decide), List.forall_mem_cons.mpr ⟨k_iconst (show decode cL_law 27 = .ok (.iconst 1, 1) by decide +kernel) (by decide +kernel), List.forall_mem_cons.mpr ⟨k_ist (show decode cL_law 28 = .ok (.istore 4, 2) by decide +kernel) (by decide), List.forall_mem_cons.mpr ⟨k_ild (show decode cL_law 30 = .ok (.iload 4, 2) by decide +kernel), List.forall_mem_cons.mpr ⟨k_bipush (show decode cL_law 32 = .ok (.bipush 42, 2) by decide +kernel) (by decide +kernel), List.forall_mem_cons.mpr ⟨k_icmp_ge (show decode cL_law 34 = .ok (.if_icmp .ge 48, 3) by decide +kernel) (by decide), List.forall_mem_cons.mpr ⟨k_ild_n (show decode cL_law 37 = .ok (.iload_n 3, 1) by decide +kernel) rfl, List.forall_mem_cons.mpr ⟨k_if_eq (show decode cL_law 38 = .ok (.ifCond .eq 44, 3) by decide +kernel) (by decide), List.forall_mem_cons.mpr ⟨k_ald_n (show decode cL_law 41 = .ok (.aload_n 1, 1) by decide +kernel) rfl, List.forall_mem_cons.mpr ⟨k_ald_n (show decode cL_law 42 = .ok (.aload_n 2, 1) by decide +kernel) rfl, List.forall_mem_cons.mpr ⟨k_ald_n (show decode cL_law 43 = .ok (.aload_n 0, 1) by decide +kernel) rfl, List.forall_mem_cons.mpr ⟨k_ild (show decode cL_law 44 = .ok (.iload 4, 2) by decide +kernel), List.forall_mem_cons.mpr ⟨k_cell (show decode cL_law 46 = .ok (.invokestatic 70, 3) by decide +kernel) (gw3 34 rfl rfl) (gw3 32 rfl rfl) (gw3 33 rfl rfl) (gw1 0 rfl rfl) (gw3 35 rfl rfl), List.forall_mem_cons.mpr ⟨k_ins (M := mL_isStep) rfl rfl (show decode cL_law 49 = .ok (.invokestatic 78, 3) by decide +kernel) (by decide +kernel) (by decide) (gw3 86 rfl rfl) (gw3 84 rfl rfl) (gw3 85 rfl rfl) (gw1 0 rfl rfl), List.forall_mem_cons.mpr ⟨k_if_eq (show decode cL_law 52 = .ok (.ifCond .eq 22, 3) by decide +kernel) (by decide), List.forall_mem_cons.mpr ⟨k_ald_n (show decode cL_law 55 = .ok (.aload_n 1, 1) by decide +kernel) rfl, List.forall_mem_cons.mpr ⟨k_ald_n (show decode cL_law 56 = .ok (.aload_n 2, 1) by decide +kernel) rfl, List.forall_mem_cons.mpr ⟨k_ins (M := mL_areAlike) rfl rfl (show decode cL_law 57 = .ok (.invokestatic 81, 3) by decide +kernel) (by decide +kernel) (by decide) (gw3 131 rfl rfl) (gw3 129 rfl rfl) (gw3 130 rfl rfl) (gw1 0 rfl rfl), List.forall_mem_cons.mpr ⟨k_if_eq (show decode cL_law 60 = .ok (.ifCond .eq 14, 3) by decide +kernel) (by decide), List.forall_mem_cons.mpr ⟨k_ald_n (show decode cL_law 63 = .ok (.aload_n 1, 1) by decide +kernel) rfl, List.forall_mem_cons.mpr ⟨k_ins (M := mL_isSound) rfl rfl (show decode cL_law 64 = .ok (.invokestatic 85, 3) by decide +kernel) (by decide +kernel) (by decide) (gw3 166 rfl rfl) (gw3 164 rfl rfl) (gw3 165 rfl rfl) (gw1 0 rfl rfl), List.forall_mem_cons.mpr ⟨k_if_eq (show decode cL_law 67 = .ok (.ifCond .eq 7, 3) by decide +kernel) (by decide), List.forall_mem_cons.mpr ⟨k_iconst (show decode cL_law 70 = .ok (.iconst 1, 1) by decide +kernel) (by decide +kernel), List.forall_mem_cons.mpr ⟨k_goto (show decode cL_law 71 = .ok (.goto 4, 3) by decide +kernel) (by decide), List.forall_mem_cons.mpr ⟨k_iconst (show decode cL_law 74 = .ok (.iconst 0, 1) by decide +kernel) (by decide +kernel), List.forall_mem_cons.mpr ⟨k_ist_n (show decode cL_law 75 = .ok (.istore_n 3, 1) by decide +kernel) rfl (by decide), fun _ h => absurd h List.not_mem_nil⟩⟩⟩⟩⟩⟩⟩⟩⟩⟩⟩⟩⟩⟩⟩⟩⟩⟩⟩⟩⟩⟩⟩⟩⟩⟩⟩⟩⟩⟩⟩⟩⟩⟩⟩⟩⟩⟩⟩⟩
set_option maxRecDepth 20000 in
theorem okL_law_p2 (L : Nat) (xs : Nat → Int32) : ∀ q ∈ jcL_law_p2 L xs, JOk mtab cL_law RL ("law", []) 7 (some (L, xs)) q.1 q.2 := by
  unfold jcL_law_p2
  exact List.forall_mem_cons.mpr ⟨k_iinc (show decode cL_law 76 = .ok (.iinc 4 1, 3) by decide +kernel) (by decide +kernel) (by decide), List.forall_mem_cons.mpr ⟨k_goto (show decode cL_law 79 = .ok (.goto (-49), 3) by decide +kernel) (by decide), List.forall_mem_cons.mpr ⟨k_ald_n (show decode cL_law 82 = .ok (.aload_n 1, 1) by decide +kernel) rfl, List.forall_mem_cons.mpr ⟨k_iconst (show decode cL_law 83 = .ok (.iconst 3, 1) by decide +kernel) (by decide +kernel), List.forall_mem_cons.mpr ⟨k_inv (M := mX6_value) (T := TX6) (N := 5) rfl rfl (show decode cL_law 84 = .ok (.invokevirtual 29, 3) by decide +kernel) rfl (by decide) (by decide +kernel) (by decide) (gw2 230 rfl rfl) (gw2 227 rfl rfl) (gw2 228 rfl rfl) (gw2 229 rfl rfl) (gw1 1 rfl rfl) (fun _ h => absurd h List.not_mem_nil), List.forall_mem_cons.mpr ⟨k_ist (show decode cL_law 87 = .ok (.istore 4, 2) by decide +kernel) (by decide), List.forall_mem_cons.mpr ⟨k_ald_n (show decode cL_law 89 = .ok (.aload_n 1, 1) by decide +kernel) rfl, List.forall_mem_cons.mpr ⟨k_bipush (show decode cL_law 90 = .ok (.bipush 11, 2) by decide +kernel) (by decide +kernel), List.forall_mem_cons.mpr ⟨k_inv (M := mX6_value) (T := TX6) (N := 5) rfl rfl (show decode cL_law 92 = .ok (.invokevirtual 29, 3) by decide +kernel) rfl (by decide) (by decide +kernel) (by decide) (gw2 230 rfl rfl) (gw2 227 rfl rfl) (gw2 228 rfl rfl) (gw2 229 rfl rfl) (gw1 1 rfl rfl) (fun _ h => absurd h List.not_mem_nil), List.forall_mem_cons.mpr ⟨k_ist (show decode cL_law 95 = .ok (.istore 5, 2) by decide +kernel) (by decide), List.forall_mem_cons.mpr ⟨k_ald_n (show decode cL_law 97 = .ok (.aload_n 1, 1) by decide +kernel) rfl, List.forall_mem_cons.mpr ⟨k_inv (M := mX6_minutesToAll) (T := TX6) (N := 5) rfl rfl (show decode cL_law 98 = .ok (.invokevirtual 46, 3) by decide +kernel) rfl (by decide) (by decide +kernel) (by decide) (gw3 17 rfl rfl) (gw3 14 rfl rfl) (gw3 15 rfl rfl) (gw3 16 rfl rfl) (gw1 1 rfl rfl) (fun _ h => absurd h List.not_mem_nil), List.forall_mem_cons.mpr ⟨k_ist (show decode cL_law 101 = .ok (.istore 6, 2) by decide +kernel) (by decide), List.forall_mem_cons.mpr ⟨k_ild_n (show decode cL_law 103 = .ok (.iload_n 3, 1) by decide +kernel) rfl, List.forall_mem_cons.mpr ⟨k_if_eq (show decode cL_law 104 = .ok (.ifCond .eq 92, 3) by decide +kernel) (by decide), List.forall_mem_cons.mpr ⟨k_ald_n (show decode cL_law 107 = .ok (.aload_n 1, 1) by decide +kernel) rfl, List.forall_mem_cons.mpr ⟨k_bipush (show decode cL_law 108 = .ok (.bipush 40, 2) by decide +kernel) (by decide +kernel), List.forall_mem_cons.mpr ⟨k_inv (M := mX6_pass) (T := TX6) (N := 5) rfl rfl (show decode cL_law 110 = .ok (.invokevirtual 43, 3) by decide +kernel) rfl (by decide) (by decide +kernel) (by decide) (gw2 18 rfl rfl) (gw2 15 rfl rfl) (gw2 16 rfl rfl) (gw2 17 rfl rfl) (gw1 1 rfl rfl) (fun _ h => absurd h List.not_mem_nil), List.forall_mem_cons.mpr ⟨k_if_lt (show decode cL_law 113 = .ok (.ifCond .lt 83, 3) by decide +kernel) (by decide), List.forall_mem_cons.mpr ⟨k_ald_n (show decode cL_law 116 = .ok (.aload_n 1, 1) by decide +kernel) rfl, List.forall_mem_cons.mpr ⟨k_iconst (show decode cL_law 117 = .ok (.iconst 3, 1) by decide +kernel) (by decide +kernel), List.forall_mem_cons.mpr ⟨k_inv (M := mX6_value) (T := TX6) (N := 5) rfl rfl (show decode cL_law 118 = .ok (.invokevirtual 29, 3) by decide +kernel) rfl (by decide) (by decide +kernel) (by decide) (gw2 230 rfl rfl) (gw2 227 rfl rfl) (gw2 228 rfl rfl) (gw2 229 rfl rfl) (gw1 1 rfl rfl) (fun _ h => absurd h List.not_mem_nil), List.forall_mem_cons.mpr ⟨k_ild (show decode cL_law 121 = .ok (.iload 4, 2) by decide +kernel), List.forall_mem_cons.mpr ⟨k_bipush (show decode cL_law 123 = .ok (.bipush 40, 2) by decide +kernel) (by decide +kernel), List.forall_mem_cons.mpr ⟨k_iadd (show decode cL_law 125 = .ok (.iadd, 1) by decide +kernel), List.forall_mem_cons.mpr ⟨k_icmp_ne (show decode cL_law 126 = .ok (.if_icmp .ne 70, 3) by decide +kernel) (by decide), List.forall_mem_cons.mpr ⟨k_ild (show decode cL_law 129 = .ok (.iload 6, 2) by decide +kernel), List.forall_mem_cons.mpr ⟨k_if_lt (show decode cL_law 131 = .ok (.ifCond .lt 24, 3) by decide +kernel) (by decide), List.forall_mem_cons.mpr ⟨k_ild (show decode cL_law 134 = .ok (.iload 6, 2) by decide +kernel), List.forall_mem_cons.mpr ⟨k_bipush (show decode cL_law 136 = .ok (.bipush 40, 2) by decide +kernel) (by decide +kernel), List.forall_mem_cons.mpr ⟨k_icmp_gt (show decode cL_law 138 = .ok (.if_icmp .gt 17, 3) by decide +kernel) (by decide), List.forall_mem_cons.mpr ⟨k_ald_n (show decode cL_law 141 = .ok (.aload_n 1, 1) by decide +kernel) rfl, List.forall_mem_cons.mpr ⟨k_bipush (show decode cL_law 142 = .ok (.bipush 11, 2) by decide +kernel) (by decide +kernel), List.forall_mem_cons.mpr ⟨k_inv (M := mX6_value) (T := TX6) (N := 5) rfl rfl (show decode cL_law 144 = .ok (.invokevirtual 29, 3) by decide +kernel) rfl (by decide) (by decide +kernel) (by decide) (gw2 230 rfl rfl) (gw2 227 rfl rfl) (gw2 228 rfl rfl) (gw2 229 rfl rfl) (gw1 1 rfl rfl) (fun _ h => absurd h List.not_mem_nil), List.forall_mem_cons.mpr ⟨k_ald_n (show decode cL_law 147 = .ok (.aload_n 1, 1) by decide +kernel) rfl, List.forall_mem_cons.mpr ⟨k_iconst (show decode cL_law 148 = .ok (.iconst 2, 1) by decide +kernel) (by decide +kernel), List.forall_mem_cons.mpr ⟨k_inv (M := mX6_value) (T := TX6) (N := 5) rfl rfl (show decode cL_law 149 = .ok (.invokevirtual 29, 3) by decide +kernel) rfl (by decide) (by decide +kernel) (by decide) (gw2 230 rfl rfl) (gw2 227 rfl rfl) (gw2 228 rfl rfl) (gw2 229 rfl rfl) (gw1 1 rfl rfl) (fun _ h => absurd h List.not_mem_nil), List.forall_mem_cons.mpr ⟨k_icmp_ne (show decode cL_law 152 = .ok (.if_icmp .ne 44, 3) by decide +kernel) (by decide), List.forall_mem_cons.mpr ⟨k_ald_n (show decode cL_law 155 = .ok (.aload_n 1, 1) by decide +kernel) rfl, List.forall_mem_cons.mpr ⟨k_inv (M := mX6_undo) (T := TX6) (N := 5) rfl rfl (show decode cL_law 156 = .ok (.invokevirtual 89, 3) by decide +kernel) rfl (by decide) (by decide +kernel) (by decide) (gw3 30 rfl rfl) (gw3 27 rfl rfl) (gw3 28 rfl rfl) (gw3 29 rfl rfl) (gw1 1 rfl rfl) (fun _ h => absurd h List.not_mem_nil), fun _ h => absurd h List.not_mem_nil⟩⟩⟩⟩⟩⟩⟩⟩⟩⟩⟩⟩⟩⟩⟩⟩⟩⟩⟩⟩⟩⟩⟩⟩⟩⟩⟩⟩⟩⟩⟩⟩⟩⟩⟩⟩⟩⟩⟩⟩
set_option maxRecDepth 20000 in
theorem okL_law_p3 (L : Nat) (xs : Nat → Int32) : ∀ q ∈ jcL_law_p3 L xs, JOk mtab cL_law RL ("law", []) 7 (some (L, xs)) q.1 q.2 := by
  unfold jcL_law_p3
  exact List.forall_mem_cons.mpr ⟨k_if_lt (show decode cL_law 159 = .ok (.ifCond .lt 37, 3) by decide +kernel) (by decide), List.forall_mem_cons.mpr ⟨k_ald_n (show decode cL_law 162 = .ok (.aload_n 1, 1) by decide +kernel) rfl, List.forall_mem_cons.mpr ⟨k_iconst (show decode cL_law 163 = .ok (.iconst 3, 1) by decide +kernel) (by decide +kernel), List.forall_mem_cons.mpr ⟨k_inv (M := mX6_value) (T := TX6) (N := 5) rfl rfl (show decode cL_law 164 = .ok (.invokevirtual 29, 3) by decide +kernel) rfl (by decide) (by decide +kernel) (by decide) (gw2 230 rfl rfl) (gw2 227 rfl rfl) (gw2 228 rfl rfl) (gw2 229 rfl rfl) (gw1 1 rfl rfl) (fun _ h => absurd h List.not_mem_nil), List.forall_mem_cons.mpr ⟨k_ild (show decode cL_law 167 = .ok (.iload 4, 2) by decide +kernel), List.forall_mem_cons.mpr ⟨k_icmp_ne (show decode cL_law 169 = .ok (.if_icmp .ne 27, 3) by decide +kernel) (by decide), List.forall_mem_cons.mpr ⟨k_ald_n (show decode cL_law 172 = .ok (.aload_n 1, 1) by decide +kernel) rfl, List.forall_mem_cons.mpr ⟨k_bipush (show decode cL_law 173 = .ok (.bipush 11, 2) by decide +kernel) (by decide +kernel), List.forall_mem_cons.mpr ⟨k_inv (M := mX6_value) (T := TX6) (N := 5) rfl rfl (show decode cL_law 175 = .ok (.invokevirtual 29, 3) by decide +kernel) rfl (by decide) (by decide +kernel) (by decide) (gw2 230 rfl rfl) (gw2 227 rfl rfl) (gw2 228 rfl rfl) (gw2 229 rfl rfl) (gw1 1 rfl rfl) (fun _ h => absurd h List.not_mem_nil), List.forall_mem_cons.mpr ⟨k_ild (show decode cL_law 178 = .ok (.iload 5, 2) by decide +kernel), List.forall_mem_cons.mpr ⟨k_icmp_ne (show decode cL_law 180 = .ok (.if_icmp .ne 16, 3) by decide +kernel) (by decide), List.forall_mem_cons.mpr ⟨k_ald_n (show decode cL_law 183 = .ok (.aload_n 1, 1) by decide +kernel) rfl, List.forall_mem_cons.mpr ⟨k_inv (M := mX6_minutesToAll) (T := TX6) (N := 5) rfl rfl (show decode cL_law 184 = .ok (.invokevirtual 46, 3) by decide +kernel) rfl (by decide) (by decide +kernel) (by decide) (gw3 17 rfl rfl) (gw3 14 rfl rfl) (gw3 15 rfl rfl) (gw3 16 rfl rfl) (gw1 1 rfl rfl) (fun _ h => absurd h List.not_mem_nil), List.forall_mem_cons.mpr ⟨k_ild (show decode cL_law 187 = .ok (.iload 6, 2) by decide +kernel), List.forall_mem_cons.mpr ⟨k_icmp_ne (show decode cL_law 189 = .ok (.if_icmp .ne 7, 3) by decide +kernel) (by decide), List.forall_mem_cons.mpr ⟨k_iconst (show decode cL_law 192 = .ok (.iconst 1, 1) by decide +kernel) (by decide +kernel), List.forall_mem_cons.mpr ⟨k_goto (show decode cL_law 193 = .ok (.goto 4, 3) by decide +kernel) (by decide), List.forall_mem_cons.mpr ⟨k_iconst (show decode cL_law 196 = .ok (.iconst 0, 1) by decide +kernel) (by decide +kernel), List.forall_mem_cons.mpr ⟨k_iret (show decode cL_law 197 = .ok (.ireturn, 1) by decide +kernel), fun _ h => absurd h List.not_mem_nil⟩⟩⟩⟩⟩⟩⟩⟩⟩⟩⟩⟩⟩⟩⟩⟩⟩⟩⟩
theorem okL_law (L : Nat) (xs : Nat → Int32) : ∀ q ∈ jcL_law L xs, JOk mtab cL_law RL ("law", []) 7 (some (L, xs)) q.1 q.2 := by
  unfold jcL_law
  exact List.forall_mem_append.mpr ⟨okL_law_p1 L xs, List.forall_mem_append.mpr ⟨okL_law_p2 L xs, okL_law_p3 L xs⟩⟩
end
section
/-! the whole table is sound -/
set_option maxRecDepth 20000 in
theorem mtab_all : ∀ z ∈ mtabL, plainName z.1.1.cls = true ∧ ∀ q ∈ z.2, JOk mtab z.1.2.1 z.1.1.cls (z.1.1.name, z.1.2.2.2.2.getD []) z.1.2.2.1 none q.1 q.2 := by
  unfold mtabL
  exact List.forall_mem_cons.mpr ⟨⟨by decide +kernel, okX0_init⟩, List.forall_mem_cons.mpr ⟨⟨by decide +kernel, okX0_tell⟩, List.forall_mem_cons.mpr ⟨⟨by decide +kernel, okX0_copyFrom⟩, List.forall_mem_cons.mpr ⟨⟨by decide +kernel, okX0_isOnStandOrBay⟩, List.forall_mem_cons.mpr ⟨⟨by decide +kernel, okX0_takeBuses⟩, List.forall_mem_cons.mpr ⟨⟨by decide +kernel, okX0_answer⟩, List.forall_mem_cons.mpr ⟨⟨by decide +kernel, okX1_init⟩, List.forall_mem_cons.mpr ⟨⟨by decide +kernel, okX1_build⟩, List.forall_mem_cons.mpr ⟨⟨by decide +kernel, okX1_restart⟩, List.forall_mem_cons.mpr ⟨⟨by decide +kernel, okX1_copyFrom⟩, List.forall_mem_cons.mpr ⟨⟨by decide +kernel, okX1_hasStand⟩, List.forall_mem_cons.mpr ⟨⟨by decide +kernel, okX1_hasTug⟩, List.forall_mem_cons.mpr ⟨⟨by decide +kernel, okX1_hasAircraft⟩, List.forall_mem_cons.mpr ⟨⟨by decide +kernel, okX1_add⟩, List.forall_mem_cons.mpr ⟨⟨by decide +kernel, fun q hq => absurd hq List.not_mem_nil⟩, List.forall_mem_cons.mpr ⟨⟨by decide +kernel, okX1_passSome⟩, List.forall_mem_cons.mpr ⟨⟨by decide +kernel, okX1_quietMinutes⟩, List.forall_mem_cons.mpr ⟨⟨by decide +kernel, okX1_workTugs⟩, List.forall_mem_cons.mpr ⟨⟨by decide +kernel, okX1_finish⟩, List.forall_mem_cons.mpr ⟨⟨by decide +kernel, okX1_receive⟩, List.forall_mem_cons.mpr ⟨⟨by decide +kernel, okX1_pushBack⟩, List.forall_mem_cons.mpr ⟨⟨by decide +kernel, okX1_turn⟩, List.forall_mem_cons.mpr ⟨⟨by decide +kernel, okX1_nextToLeave⟩, List.forall_mem_cons.mpr ⟨⟨by decide +kernel, okX1_beginPush⟩, List.forall_mem_cons.mpr ⟨⟨by decide +kernel, okX1_tow⟩, List.forall_mem_cons.mpr ⟨⟨by decide +kernel, okX1_countMinutes⟩, List.forall_mem_cons.mpr ⟨⟨by decide +kernel, okX1_freeStandFor⟩, List.forall_mem_cons.mpr ⟨⟨by decide +kernel, okX1_freeTugFor⟩, List.forall_mem_cons.mpr ⟨⟨by decide +kernel, okX1_reason⟩, List.forall_mem_cons.mpr ⟨⟨by decide +kernel, okX1_isCurfew⟩, List.forall_mem_cons.mpr ⟨⟨by decide +kernel, okX1_isPushedFrom⟩, List.forall_mem_cons.mpr ⟨⟨by decide +kernel, okX1_passUntilAllGone⟩, List.forall_mem_cons.mpr ⟨⟨by decide +kernel, okX1_areAllGone⟩, List.forall_mem_cons.mpr ⟨⟨by decide +kernel, okX1_countAt⟩, List.forall_mem_cons.mpr ⟨⟨by decide +kernel, okX1_sumOfDelays⟩, List.forall_mem_cons.mpr ⟨⟨by decide +kernel, okX1_greatestDelay⟩, List.forall_mem_cons.mpr ⟨⟨by decide +kernel, okX1_sumOfBuses⟩, List.forall_mem_cons.mpr ⟨⟨by decide +kernel, okX1_standAnswer⟩, List.forall_mem_cons.mpr ⟨⟨by decide +kernel, okX1_answer⟩, List.forall_mem_cons.mpr ⟨⟨by decide +kernel, okX2_init⟩, List.forall_mem_cons.mpr ⟨⟨by decide +kernel, okX2_put⟩, List.forall_mem_cons.mpr ⟨⟨by decide +kernel, okX2_kept⟩, List.forall_mem_cons.mpr ⟨⟨by decide +kernel, fun q hq => absurd hq List.not_mem_nil⟩, List.forall_mem_cons.mpr ⟨⟨by decide +kernel, okX2_copyFrom⟩, List.forall_mem_cons.mpr ⟨⟨by decide +kernel, okX3_init⟩, List.forall_mem_cons.mpr ⟨⟨by decide +kernel, okX3_restart⟩, List.forall_mem_cons.mpr ⟨⟨by decide +kernel, okX3_copyFrom⟩, List.forall_mem_cons.mpr ⟨⟨by decide +kernel, okX4_init⟩, List.forall_mem_cons.mpr ⟨⟨by decide +kernel, fun q hq => absurd hq List.not_mem_nil⟩, List.forall_mem_cons.mpr ⟨⟨by decide +kernel, fun q hq => absurd hq List.not_mem_nil⟩, List.forall_mem_cons.mpr ⟨⟨by decide +kernel, fun q hq => absurd hq List.not_mem_nil⟩, List.forall_mem_cons.mpr ⟨⟨by decide +kernel, fun q hq => absurd hq List.not_mem_nil⟩, List.forall_mem_cons.mpr ⟨⟨by decide +kernel, fun q hq => absurd hq List.not_mem_nil⟩, List.forall_mem_cons.mpr ⟨⟨by decide +kernel, fun q hq => absurd hq List.not_mem_nil⟩, List.forall_mem_cons.mpr ⟨⟨by decide +kernel, fun q hq => absurd hq List.not_mem_nil⟩, List.forall_mem_cons.mpr ⟨⟨by decide +kernel, fun q hq => absurd hq List.not_mem_nil⟩, List.forall_mem_cons.mpr ⟨⟨by decide +kernel, okX5_init⟩, List.forall_mem_cons.mpr ⟨⟨by decide +kernel, okX5_restart⟩, List.forall_mem_cons.mpr ⟨⟨by decide +kernel, okX5_copyFrom⟩, List.forall_mem_cons.mpr ⟨⟨by decide +kernel, okX5_take⟩, List.forall_mem_cons.mpr ⟨⟨by decide +kernel, okX5_answer⟩, List.forall_mem_cons.mpr ⟨⟨by decide +kernel, okX6_init⟩, List.forall_mem_cons.mpr ⟨⟨by decide +kernel, okX6_begin⟩, List.forall_mem_cons.mpr ⟨⟨by decide +kernel, okX6_setSpan⟩, List.forall_mem_cons.mpr ⟨⟨by decide +kernel, okX6_setStrength⟩, List.forall_mem_cons.mpr ⟨⟨by decide +kernel, okX6_setCurfew⟩, List.forall_mem_cons.mpr ⟨⟨by decide +kernel, okX6_expect⟩, List.forall_mem_cons.mpr ⟨⟨by decide +kernel, okX6_setLeaves⟩, List.forall_mem_cons.mpr ⟨⟨by decide +kernel, okX6_pass⟩, List.forall_mem_cons.mpr ⟨⟨by decide +kernel, okX6_aircraft⟩, List.forall_mem_cons.mpr ⟨⟨by decide +kernel, okX6_stand⟩, List.forall_mem_cons.mpr ⟨⟨by decide +kernel, okX6_tug⟩, List.forall_mem_cons.mpr ⟨⟨by decide +kernel, okX6_value⟩, List.forall_mem_cons.mpr ⟨⟨by decide +kernel, fun q hq => absurd hq List.not_mem_nil⟩, List.forall_mem_cons.mpr ⟨⟨by decide +kernel, okX6_why⟩, List.forall_mem_cons.mpr ⟨⟨by decide +kernel, okX6_delayOf⟩, List.forall_mem_cons.mpr ⟨⟨by decide +kernel, okX6_minutesToAll⟩, List.forall_mem_cons.mpr ⟨⟨by decide +kernel, fun q hq => absurd hq List.not_mem_nil⟩, List.forall_mem_cons.mpr ⟨⟨by decide +kernel, fun q hq => absurd hq List.not_mem_nil⟩, List.forall_mem_cons.mpr ⟨⟨by decide +kernel, okX6_used⟩, List.forall_mem_cons.mpr ⟨⟨by decide +kernel, fun q hq => absurd hq List.not_mem_nil⟩, List.forall_mem_cons.mpr ⟨⟨by decide +kernel, fun q hq => absurd hq List.not_mem_nil⟩, List.forall_mem_cons.mpr ⟨⟨by decide +kernel, fun q hq => absurd hq List.not_mem_nil⟩, List.forall_mem_cons.mpr ⟨⟨by decide +kernel, okX6_undo⟩, List.forall_mem_cons.mpr ⟨⟨by decide +kernel, fun q hq => absurd hq List.not_mem_nil⟩, List.forall_mem_cons.mpr ⟨⟨by decide +kernel, okX6_isOutside⟩, List.forall_mem_cons.mpr ⟨⟨by decide +kernel, okX6_isKind⟩, List.forall_mem_cons.mpr ⟨⟨by decide +kernel, okX6_save⟩, List.forall_mem_cons.mpr ⟨⟨by decide +kernel, okX6_dropOldest⟩, List.forall_mem_cons.mpr ⟨⟨by decide +kernel, fun q hq => absurd hq List.not_mem_nil⟩, List.forall_mem_cons.mpr ⟨⟨by decide +kernel, fun q hq => absurd hq List.not_mem_nil⟩, List.forall_mem_cons.mpr ⟨⟨by decide +kernel, fun q hq => absurd hq List.not_mem_nil⟩, List.forall_mem_cons.mpr ⟨⟨by decide +kernel, fun q hq => absurd hq List.not_mem_nil⟩, List.forall_mem_cons.mpr ⟨⟨by decide +kernel, fun q hq => absurd hq List.not_mem_nil⟩, List.forall_mem_cons.mpr ⟨⟨by decide +kernel, fun q hq => absurd hq List.not_mem_nil⟩, List.forall_mem_cons.mpr ⟨⟨by decide +kernel, fun q hq => absurd hq List.not_mem_nil⟩, List.forall_mem_cons.mpr ⟨⟨by decide +kernel, fun q hq => absurd hq List.not_mem_nil⟩, List.forall_mem_cons.mpr ⟨⟨by decide +kernel, fun q hq => absurd hq List.not_mem_nil⟩, List.forall_mem_cons.mpr ⟨⟨by decide +kernel, fun q hq => absurd hq List.not_mem_nil⟩, List.forall_mem_cons.mpr ⟨⟨by decide +kernel, fun q hq => absurd hq List.not_mem_nil⟩, List.forall_mem_cons.mpr ⟨⟨by decide +kernel, fun q hq => absurd hq List.not_mem_nil⟩, List.forall_mem_cons.mpr ⟨⟨by decide +kernel, fun q hq => absurd hq List.not_mem_nil⟩, List.forall_mem_cons.mpr ⟨⟨by decide +kernel, fun q hq => absurd hq List.not_mem_nil⟩, List.forall_mem_cons.mpr ⟨⟨by decide +kernel, fun q hq => absurd hq List.not_mem_nil⟩, List.forall_mem_cons.mpr ⟨⟨by decide +kernel, fun q hq => absurd hq List.not_mem_nil⟩, List.forall_mem_cons.mpr ⟨⟨by decide +kernel, fun q hq => absurd hq List.not_mem_nil⟩, List.forall_mem_cons.mpr ⟨⟨by decide +kernel, fun q hq => absurd hq List.not_mem_nil⟩, List.forall_mem_cons.mpr ⟨⟨by decide +kernel, fun q hq => absurd hq List.not_mem_nil⟩, List.forall_mem_cons.mpr ⟨⟨by decide +kernel, fun q hq => absurd hq List.not_mem_nil⟩, List.forall_mem_cons.mpr ⟨⟨by decide +kernel, fun q hq => absurd hq List.not_mem_nil⟩, List.forall_mem_cons.mpr ⟨⟨by decide +kernel, fun q hq => absurd hq List.not_mem_nil⟩, List.forall_mem_cons.mpr ⟨⟨by decide +kernel, fun q hq => absurd hq List.not_mem_nil⟩, List.forall_mem_cons.mpr ⟨⟨by decide +kernel, fun q hq => absurd hq List.not_mem_nil⟩, List.forall_mem_cons.mpr ⟨⟨by decide +kernel, fun q hq => absurd hq List.not_mem_nil⟩, List.forall_mem_cons.mpr ⟨⟨by decide +kernel, fun q hq => absurd hq List.not_mem_nil⟩, List.forall_mem_cons.mpr ⟨⟨by decide +kernel, fun q hq => absurd hq List.not_mem_nil⟩, List.forall_mem_cons.mpr ⟨⟨by decide +kernel, fun q hq => absurd hq List.not_mem_nil⟩, List.forall_mem_cons.mpr ⟨⟨by decide +kernel, fun q hq => absurd hq List.not_mem_nil⟩, List.forall_mem_cons.mpr ⟨⟨by decide +kernel, fun q hq => absurd hq List.not_mem_nil⟩, List.forall_mem_cons.mpr ⟨⟨by decide +kernel, fun q hq => absurd hq List.not_mem_nil⟩, List.forall_mem_cons.mpr ⟨⟨by decide +kernel, fun q hq => absurd hq List.not_mem_nil⟩, List.forall_mem_cons.mpr ⟨⟨by decide +kernel, fun q hq => absurd hq List.not_mem_nil⟩, List.forall_mem_cons.mpr ⟨⟨by decide +kernel, fun q hq => absurd hq List.not_mem_nil⟩, List.forall_mem_cons.mpr ⟨⟨by decide +kernel, fun q hq => absurd hq List.not_mem_nil⟩, List.forall_mem_cons.mpr ⟨⟨by decide +kernel, fun q hq => absurd hq List.not_mem_nil⟩, List.forall_mem_cons.mpr ⟨⟨by decide +kernel, fun q hq => absurd hq List.not_mem_nil⟩, List.forall_mem_cons.mpr ⟨⟨by decide +kernel, fun q hq => absurd hq List.not_mem_nil⟩, List.forall_mem_cons.mpr ⟨⟨by decide +kernel, fun q hq => absurd hq List.not_mem_nil⟩, List.forall_mem_cons.mpr ⟨⟨by decide +kernel, fun q hq => absurd hq List.not_mem_nil⟩, List.forall_mem_cons.mpr ⟨⟨by decide +kernel, fun q hq => absurd hq List.not_mem_nil⟩, List.forall_mem_cons.mpr ⟨⟨by decide +kernel, fun q hq => absurd hq List.not_mem_nil⟩, List.forall_mem_cons.mpr ⟨⟨by decide +kernel, fun q hq => absurd hq List.not_mem_nil⟩, List.forall_mem_cons.mpr ⟨⟨by decide +kernel, fun q hq => absurd hq List.not_mem_nil⟩, List.forall_mem_cons.mpr ⟨⟨by decide +kernel, fun q hq => absurd hq List.not_mem_nil⟩, List.forall_mem_cons.mpr ⟨⟨by decide +kernel, fun q hq => absurd hq List.not_mem_nil⟩, List.forall_mem_cons.mpr ⟨⟨by decide +kernel, fun q hq => absurd hq List.not_mem_nil⟩, List.forall_mem_cons.mpr ⟨⟨by decide +kernel, fun q hq => absurd hq List.not_mem_nil⟩, List.forall_mem_cons.mpr ⟨⟨by decide +kernel, fun q hq => absurd hq List.not_mem_nil⟩, List.forall_mem_cons.mpr ⟨⟨by decide +kernel, fun q hq => absurd hq List.not_mem_nil⟩, List.forall_mem_cons.mpr ⟨⟨by decide +kernel, fun q hq => absurd hq List.not_mem_nil⟩, List.forall_mem_cons.mpr ⟨⟨by decide +kernel, fun q hq => absurd hq List.not_mem_nil⟩, List.forall_mem_cons.mpr ⟨⟨by decide +kernel, fun q hq => absurd hq List.not_mem_nil⟩, List.forall_mem_cons.mpr ⟨⟨by decide +kernel, fun q hq => absurd hq List.not_mem_nil⟩, List.forall_mem_cons.mpr ⟨⟨by decide +kernel, fun q hq => absurd hq List.not_mem_nil⟩, List.forall_mem_cons.mpr ⟨⟨by decide +kernel, fun q hq => absurd hq List.not_mem_nil⟩, List.forall_mem_cons.mpr ⟨⟨by decide +kernel, fun q hq => absurd hq List.not_mem_nil⟩, List.forall_mem_cons.mpr ⟨⟨by decide +kernel, fun q hq => absurd hq List.not_mem_nil⟩, List.forall_mem_cons.mpr ⟨⟨by decide +kernel, fun q hq => absurd hq List.not_mem_nil⟩, List.forall_mem_cons.mpr ⟨⟨by decide +kernel, fun q hq => absurd hq List.not_mem_nil⟩, List.forall_mem_cons.mpr ⟨⟨by decide +kernel, fun q hq => absurd hq List.not_mem_nil⟩, List.forall_mem_cons.mpr ⟨⟨by decide +kernel, fun q hq => absurd hq List.not_mem_nil⟩, List.forall_mem_cons.mpr ⟨⟨by decide +kernel, fun q hq => absurd hq List.not_mem_nil⟩, List.forall_mem_cons.mpr ⟨⟨by decide +kernel, fun q hq => absurd hq List.not_mem_nil⟩, List.forall_mem_cons.mpr ⟨⟨by decide +kernel, fun q hq => absurd hq List.not_mem_nil⟩, List.forall_mem_cons.mpr ⟨⟨by decide +kernel, fun q hq => absurd hq List.not_mem_nil⟩, List.forall_mem_cons.mpr ⟨⟨by decide +kernel, fun q hq => absurd hq List.not_mem_nil⟩, List.forall_mem_cons.mpr ⟨⟨by decide +kernel, fun q hq => absurd hq List.not_mem_nil⟩, List.forall_mem_cons.mpr ⟨⟨by decide +kernel, okL_up⟩, List.forall_mem_cons.mpr ⟨⟨by decide +kernel, okL_fields⟩, List.forall_mem_cons.mpr ⟨⟨by decide +kernel, okL_isStep⟩, List.forall_mem_cons.mpr ⟨⟨by decide +kernel, okL_turned⟩, List.forall_mem_cons.mpr ⟨⟨by decide +kernel, okL_areAlike⟩, List.forall_mem_cons.mpr ⟨⟨by decide +kernel, okL_isSound⟩, fun _ h => absurd h List.not_mem_nil⟩⟩⟩⟩⟩⟩⟩⟩⟩⟩⟩⟩⟩⟩⟩⟩⟩⟩⟩⟩⟩⟩⟩⟩⟩⟩⟩⟩⟩⟩⟩⟩⟩⟩⟩⟩⟩⟩⟩⟩⟩⟩⟩⟩⟩⟩⟩⟩⟩⟩⟩⟩⟩⟩⟩⟩⟩⟩⟩⟩⟩⟩⟩⟩⟩⟩⟩⟩⟩⟩⟩⟩⟩⟩⟩⟩⟩⟩⟩⟩⟩⟩⟩⟩⟩⟩⟩⟩⟩⟩⟩⟩⟩⟩⟩⟩⟩⟩⟩⟩⟩⟩⟩⟩⟩⟩⟩⟩⟩⟩⟩⟩⟩⟩⟩⟩⟩⟩⟩⟩⟩⟩⟩⟩⟩⟩⟩⟩⟩⟩⟩⟩⟩⟩⟩⟩⟩⟩⟩⟩⟩⟩⟩⟩⟩⟩⟩⟩⟩⟩⟩⟩⟩⟩⟩⟩⟩⟩⟩⟩⟩⟩⟩
theorem mtab_ok : jTab mtab mcode := fun μ => by
  unfold mtab mcode
  by_cases h : μ < mtabL.length
  · have e : mtabL.getD μ mdf = mtabL[μ] := by rw [List.getD_eq_getElem?_getD, List.getElem?_eq_getElem h]; rfl
    rw [e]
    exact mtab_all _ (List.getElem_mem h)
  · have e : mtabL.getD μ mdf = mdf := by rw [List.getD_eq_getElem?_getD, List.getElem?_eq_none (by omega)]; rfl
    rw [e]
    exact ⟨by decide +kernel, fun q hq => absurd hq List.not_mem_nil⟩
end
