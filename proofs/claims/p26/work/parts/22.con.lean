section JCON
variable {tab : Nat → JM5} {code : Nat → List (Nat × JA)}
/-- the surroundings of a method's run at its entry -/
theorem j_ctx {p : Program} {l : Launch} {e : Env} {s : State} {m : MethodId} {args : Array Value} {below : List Frame} {meth : Method} {c : Code} {D : va_G} {g : Nat → ClassId} {a : Nat → Nat} {M : JM5} {d : Nat} {h h1 : JH} {Q : State → Prop}
    (hx : p.tables.exec = Jvm.exec) (hb : c.code = M.2.1) (hown : s.vm.findClass M.1.cls = some m.cls) (hml : c.maxLocals = M.2.2.1) (hts : ∀ w ∈ GW, w.before args s = true) (hp : jPre D g a h s.heap.size s) (hle : jLe h h1) (hfl : l.stackTraces = false) (hlk : meth.locks = false) (hnm : meth.name = M.1.name) (htb : c.exceptionTable.toList = tableOf (M.2.2.2.2.getD [])) :
    jC M.2.1 M.1.cls (M.1.name, M.2.2.2.2.getD []) M.2.2.1 d none ((p, l, e, { frames := d, cells := h1.2.1 - h.2.1, slots := h1.2.2.1 - h.2.2.1, locals := 36 * d }, s), (m, args, below, meth, c), (D, g), (jA a h.1 s.heap.size, M.2.2.1, h.1, a), (h.2.1, h.2.2.1, h1.2.1, h1.2.2.1), Q) := by
  obtain ⟨z1, z2, z3⟩ := id hle
  obtain ⟨-, hK, hR, hZ⟩ := hp
  exact ⟨hx, hb, hown, ⟨hml, rfl⟩, hts, hK, hZ, ⟨Nat.le_refl _, Nat.le_refl _, by show h1.2.1 ≤ h.2.1 + (h1.2.1 - h.2.1); omega, by show h1.2.2.1 ≤ h.2.2.1 + (h1.2.2.1 - h.2.2.1); omega⟩, ⟨fun q h0 h1 => Or.inl ⟨q, h0, h1, rfl⟩, fun x hx => Or.inr hx⟩, (fun _ _ h => nomatch h), hfl, hlk, fun q => hnm.trans q, fun _ => htb⟩
theorem j_begin {p : Program} {l : Launch} {e : Env} {R : Room} {s : State} {m : MethodId} {below : List Frame} {meth : Method} {c : Code} {D : va_G} {g : Nat → ClassId} {a : Nat → Nat} {nL : Nat} {as : List Value} {h h1 : JH} {Q : State → Prop} (hn : (lg_sl as).length ≤ nL) (hp : jPre D g a h s.heap.size s) (hle : jLe h h1)
    (k : jW ((p, l, e, R, s), (m, (as.map (tv a)).toArray, below, meth, c), (D, g), (jA a h.1 s.heap.size, nL, h.1, a), (h.2.1, h.2.2.1, h1.2.1, h1.2.2.1), Q) (0, lv_args 0 as, []) h) : W p l e R s m (as.map (tv a)).toArray below meth c s.heap [] 0 0 Q (entryFrame m (as.map (tv a)).toArray nL) := by
  rw [lg_entry_eq]
  have hsl : ∀ vs : List Value, (lg_sl (vs.map (tv a))).length = (lg_sl vs).length := by
    intro vs
    induction vs with
    | nil => rfl
    | cons v vs ih =>
      have e1 : lg_sl ((v :: vs).map (tv a)) = (if (tv a v).category = 2 then [.val (tv a v), .second] else [.val (tv a v)]) ++ lg_sl (vs.map (tv a)) := rfl
      have e2 : lg_sl (v :: vs) = (if v.category = 2 then [.val v, .second] else [.val v]) ++ lg_sl vs := rfl
      rw [e1, e2, List.length_append, List.length_append, ih, tv_cat]
      split <;> rfl
  have hl := lv_entry (as.map (tv a)) (n := nL) (by rw [hsl]; exact hn)
  rw [lv_args_tv] at hl
  exact k a _ s.heap [] 0 0 hl ⟨hp.2.2.1, va_S.rf, fun _ _ => rfl, fun _ => rfl, fun q h0 h1 => absurd h1 (Nat.not_lt.mpr h0), Nat.le_refl _, rfl, rfl⟩ hle.2.1 hle.2.2
theorem table_none {x y : MethodName} {S : Spec} {p : Program} {l : Launch} {e : Env} {s s₁ : State} {m : MethodId} {args : Array Value} {below : List Frame} {meth : Method} {c : Code} {cc bytes : ByteArray} {maxL maxL' : Nat} {ret ret' : Option FieldType}
    (B : BodyLoose p l y S cc maxL ret e s m args below meth c s₁) (h : (Cond.code y bytes maxL' ret').before args s = true) : c.exceptionTable.toList = [] := by
  obtain ⟨meth9, c9, h1, h2, -, -, -, -, h7, -⟩ := Cond.code_spec B.named h
  cases Option.some.inj (h1.symm.trans B.method)
  cases Option.some.inj (h2.symm.trans (Stand.of_body B).code)
  rw [Array.isEmpty_iff.mp h7]
theorem con_of {d : Nat} {E : JE} {M : JM5} {cd : List (Nat × JA)} {as : List Value} {h h1 : JH} {r : Option Value} (hE : jEok tab d E) (hpl : plainName M.1.cls = true) (hcd : ∀ q ∈ cd, JOk tab M.2.1 M.1.cls (M.1.name, M.2.2.2.2.getD []) M.2.2.1 none q.1 q.2) (hck : jchk (d + 1) M as (.inl r)) {k : Nat} (hG : JG E cd k (0, lv_args 0 as, []) h (.inl r) h1) : Con M (d + 1) as h r h1 := by
  have hle := run_le hE hcd k _ _ hG
  refine ⟨hle, fun l D g a sz hfl => ?_⟩
  cases hh : M.2.2.2.2 with
  | none =>
    refine Met.ofW (cc := M.2.1) (maxL := M.2.2.1) (ret := M.2.2.2.1) (ws' := GW) hpl (by unfold jws jword; rw [hh]) ?_
    intro p e s m args below meth c s₁ B hml hv
    obtain ⟨rfl, hp⟩ := hv
    obtain ⟨rfl⟩ : s.heap.size = sz := hp.1
    have hall := atoms_spec (ws := jws M) B.pre
    have hts : ∀ w ∈ GW, w.before (as.map (tv a)).toArray s = true := fun w hw => hall w (List.mem_cons_of_mem _ hw)
    have hcw : (Cond.code M.1 M.2.1 M.2.2.1 M.2.2.2.1).before (as.map (tv a)).toArray s = true := by
      have := hall _ List.mem_cons_self
      unfold jword at this
      rw [hh] at this
      exact this
    have htb := table_none (x := M.1) B hcw
    refine j_begin hck.1 hp hle (run_ok hE hcd (j_ctx B.exec B.bytes (findClass_of_methodNamed B.named) hml hts hp hle hfl B.notSynchronized (name_of_methodNamed B.named B.method).1 (by rw [htb, hh]; rfl)) (o := .inl r) (hf := h1) ?_ (Nat.le_refl _) (Nat.le_refl _) k _ _ hG)
    exact j_end (own := M.1.cls) (nm := (M.1.name, [])) (dd := d) B.exec B.bytes B.returns B.notSynchronized hck.2 hle rfl rfl
  | some hh0 =>
    refine va_MetW (cc := M.2.1) (maxL := M.2.2.1) (ret := M.2.2.2.1) (hh := hh0) (ws' := GW) hpl (by unfold jws jword; rw [hh]) ?_
    intro p e s m args below meth c s₁ B hml hv
    obtain ⟨rfl, hp⟩ := hv
    obtain ⟨rfl⟩ : s.heap.size = sz := hp.1
    have hall := atoms_spec (ws := jws M) B.pre
    have hts : ∀ w ∈ GW, w.before (as.map (tv a)).toArray s = true := fun w hw => hall w (List.mem_cons_of_mem _ hw)
    have hcw : (Cond.codeWith M.1 M.2.1 M.2.2.1 M.2.2.2.1 hh0).before (as.map (tv a)).toArray s = true := by
      have := hall _ List.mem_cons_self
      unfold jword at this
      rw [hh] at this
      exact this
    have htb := vx_table (x := M.1) B hcw
    refine j_begin hck.1 hp hle (run_ok hE hcd (j_ctx B.exec B.bytes (findClass_of_methodNamed B.named) hml hts hp hle hfl B.notSynchronized (name_of_methodNamed B.named B.method).1 (by rw [htb, hh]; rfl)) (o := .inl r) (hf := h1) ?_ (Nat.le_refl _) (Nat.le_refl _) k _ _ hG)
    exact j_end (own := M.1.cls) (nm := (M.1.name, [])) (dd := d) B.exec B.bytes B.returns B.notSynchronized hck.2 hle rfl rfl
/-- a run that throws keeps the cells' count -/
theorem run_n {E : JE} {d : Nat} {cc : ByteArray} {own : String} {nm : String × List (Nat × Nat × Nat × Nat)} {nL : Nat} {scr : Option (Nat × (Nat → Int32))} {cd : List (Nat × JA)} (hE : jEok tab d E) (hcd : ∀ q ∈ cd, JOk tab cc own nm nL scr q.1 q.2) {x : String} {hf : JH} : ∀ (k : Nat) (f : JF) (h : JH), JG E cd k f h (.inr x) hf → ∃ h', hf = jbump h' ∧ jLe h h'
  | 0, _, _, h => h.elim
  | k + 1, (pc, l, st), h, ⟨act, hlk, hst⟩ => by
    have ok := hcd _ (jlk_mem hlk)
    cases ha : act (pc, l, st) h with
    | none => rw [ha] at hst; exact hst.elim
    | some z =>
      rw [ha] at hst
      obtain ⟨f', h'⟩ | ⟨μ, as, f', ct⟩ | v | x := z
      · obtain ⟨h2, e1, e2⟩ := run_n hE hcd k f' h' hst
        exact ⟨h2, e1, (ok.1 l st h f' h' ha).trans e2⟩
      · rcases hst with ⟨rv, h1, e1, -, e3⟩ | ⟨X, kv, h1, -, -, e4, -⟩
        · obtain ⟨h2, e4, e5⟩ := run_n hE hcd k _ h1 e3
          exact ⟨h2, e4, ((hE μ as h).1 rv h1 e1).1.trans e5⟩
        · cases e4
      · obtain ⟨e4, -⟩ := hst
        cases e4
      · obtain ⟨-, rfl⟩ := hst
        exact ⟨h, rfl, jLe.rf⟩
theorem conX_of {d : Nat} {E : JE} {M : JM5} {cd : List (Nat × JA)} {as : List Value} {h h1 : JH} {x : String} (hE : jEok tab d E) (hpl : plainName M.1.cls = true) (hcd : ∀ q ∈ cd, JOk tab M.2.1 M.1.cls (M.1.name, M.2.2.2.2.getD []) M.2.2.1 none q.1 q.2) (hck : jchk (d + 1) M as (.inr x)) (hn : h1.1 = h.1) {k : Nat} (hG : JG E cd k (0, lv_args 0 as, []) h (.inr x) h1) : ConX M (d + 1) as h x h1 := by
  have hle := run_le hE hcd k _ _ hG
  refine ⟨⟨hle, hn⟩, fun l D g a sz hfl => ?_⟩
  obtain ⟨hck1, hck2, hh⟩ := hck
  refine vx_ofW (cc := M.2.1) (maxL := M.2.2.1) (ret := M.2.2.2.1) (ws' := GW) hpl (by unfold jws jword; rw [hh]) ?_
  intro p e s m args below meth c s₁ B hml ht hv
  obtain ⟨rfl, hp⟩ := hv
  obtain ⟨rfl⟩ : s.heap.size = sz := hp.1
  have hall := atoms_spec (ws := jws M) B.pre
  have hts : ∀ w ∈ GW, w.before (as.map (tv a)).toArray s = true := fun w hw => hall w (List.mem_cons_of_mem _ hw)
  have htb : c.exceptionTable.toList = [] := by
    cases he : c.exceptionTable.toList with
    | nil => rfl
    | cons y r => exact (ht y (by rw [he]; exact List.mem_cons_self)).elim
  refine j_begin hck1 hp hle (run_ok hE hcd (j_ctx B.exec B.bytes (findClass_of_methodNamed B.named) hml hts hp hle hfl B.notSynchronized (name_of_methodNamed B.named B.method).1 (by rw [htb, hh]; rfl)) (o := .inr x) (hf := h1) ?_ (Nat.le_refl _) (Nat.le_refl _) k _ _ hG)
  refine ⟨hck2, fun h9 e9 => ?_⟩
  subst e9
  intro a' H locs cells slots hq
  obtain ⟨kR, kS, k3, k4, k5, k6, k7, k8⟩ := hq
  have hn9 : h9.1 = h.1 := hn
  have ha : a' = a := k4 hn9
  subst ha
  obtain ⟨z1, z2, z3⟩ := id hle
  have y2 : h.2.1 ≤ h9.2.1 + 1 := z2
  have y3 : h.2.2.1 ≤ h9.2.2.1 + 6 := z3
  refine ⟨_, _, _, _, _, rfl, ht, fun t hal hz ho => ⟨rfl, ?_, ?_⟩, kS.2.2, by show cells + 1 ≤ h9.2.1 + 1 - h.2.1; omega, by show slots + 6 ≤ h9.2.2.1 + 6 - h.2.2.1; omega, Nat.le_refl _, Nat.le_refl _⟩
  · exact ⟨fun q q0 q1 => (kR.1 q q0 q1).kept (ho _ (kR.1 q q0 q1).lt), kR.2⟩
  · refine ⟨Nat.le_trans kS.1 hz, fun q g1 g2 => ?_⟩
    rw [ho q (Nat.lt_of_lt_of_le g1 kS.1)]
    exact kS.2.1 q g1 (fun z => g2 (by
      rcases z with ⟨q9, w1, w2, w3⟩ | z
      · exact Or.inl ⟨q9, w1, by show q9 < h9.1; rw [hn9]; exact w2, w3⟩
      · exact Or.inr z))
theorem ev_ok (ht : jTab tab code) : ∀ d, jEok tab d (Ev tab code d)
  | 0 => fun _ _ _ => ⟨fun _ _ h => h.elim, fun _ _ h => h.elim⟩
  | d + 1 => fun μ as h => ⟨fun _ _ ⟨hck, _, _, hG⟩ => con_of (ev_ok ht d) (ht μ).1 (ht μ).2 hck hG, fun x _ ⟨hck, hn, _, hG⟩ => conX_of (ev_ok ht d) (ht μ).1 (ht μ).2 hck (hn x rfl) hG⟩
end JCON
