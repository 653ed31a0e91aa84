/-! runs, and their soundness -/
def jlk (cd : List (Nat × JA)) (pc : Nat) : Option JA := match cd with
  | [] => none
  | q :: r => if q.1 = pc then some q.2 else jlk r pc
theorem jlk_mem {pc : Nat} {act : JA} : ∀ {cd : List (Nat × JA)}, jlk cd pc = some act → (pc, act) ∈ cd
  | [], h => by cases h
  | q :: r, h => by
    unfold jlk at h
    by_cases e : q.1 = pc
    · rw [if_pos e] at h
      cases h
      rw [← e]
      exact List.mem_cons_self
    · rw [if_neg e] at h
      exact List.mem_cons_of_mem _ (jlk_mem h)
abbrev JE : Type := Nat → List Value → JH → JO → JH → Prop
def jbump (h : JH) : JH := (h.1, h.2.1 + 1, h.2.2.1 + 6, h.2.2.2)
def jst (E : JE) (K : JF → JH → JO → JH → Prop) (r : Option ((JF × JH) ⊕ ((Nat × List Value × JF × List (String × Int32)) ⊕ JO))) (h : JH) (o : JO) (hf : JH) : Prop := match r with
  | none => False
  | some (.inl (f', h')) => K f' h' o hf
  | some (.inr (.inl (μ, as, f', ct))) => (∃ rv h1, E μ as h (.inl rv) h1 ∧ (h1.1 = h.1 ∨ jfr h.1 f' = true) ∧ K (f'.1, f'.2.1, rv.toList ++ f'.2.2) h1 o hf) ∨ (∃ X kv h1, E μ as h (.inr X) h1 ∧ (X, kv) ∈ ct ∧ o = .inl (some (.int kv)) ∧ hf = h1)
  | some (.inr (.inr (.inl v))) => o = .inl v ∧ hf = h
  | some (.inr (.inr (.inr X))) => o = .inr X ∧ hf = jbump h
def JG (E : JE) (cd : List (Nat × JA)) : Nat → JF → JH → JO → JH → Prop
  | 0, _, _, _, _ => False
  | k + 1, f, h, o, hf => ∃ act, jlk cd f.1 = some act ∧ jst E (JG E cd k) (act f h) h o hf
def jrv (ret : Option FieldType) (v : Option Value) : Prop := match ret, v with
  | none, none => True
  | some .int, some (.int _) => True
  | some .boolean, some (.int x) => x = 0 ∨ x = 1
  | some .long, some (.long _) => True
  | some .double, some (.double _) => True
  | _, _ => False
def jchk (d : Nat) (M : JM5) (as : List Value) (o : JO) : Prop := (lg_sl as).length ≤ M.2.2.1 ∧ match o with
  | .inl v => jrv M.2.2.2.1 v
  | .inr _ => 6 ≤ d ∧ M.2.2.2.2 = none
def Ev (tab : Nat → JM5) (code : Nat → List (Nat × JA)) : Nat → JE
  | 0 => fun _ _ _ _ _ => False
  | d + 1 => fun μ as h o hf => jchk (d + 1) (tab μ) as o ∧ (∀ x, o = .inr x → hf.1 = h.1) ∧ ∃ k, JG (Ev tab code d) (code μ) k (0, lv_args 0 as, []) h o hf
section JSND
variable {tab : Nat → JM5} {code : Nat → List (Nat × JA)}
def jEok (tab : Nat → JM5) (d : Nat) (E : JE) : Prop := ∀ μ as h, (∀ r h1, E μ as h (.inl r) h1 → Con (tab μ) d as h r h1) ∧ (∀ x h1, E μ as h (.inr x) h1 → ConX (tab μ) d as h x h1)
def jFin (cc : ByteArray) (X : JX) (dd : Nat) (o : JO) (hf : JH) : Prop := match o with
  | .inl v => jEnd cc X v hf
  | .inr x => 6 ≤ dd ∧ ∀ h, hf = jbump h → jEndX X x h
theorem jbump_le (h : JH) : jLe h (jbump h) := ⟨Nat.le_refl _, Nat.le_add_right _ _, Nat.le_add_right _ _⟩
theorem run_le {E : JE} {d : Nat} {cc : ByteArray} {own : String} {nm : String × List (Nat × Nat × Nat × Nat)} {nL : Nat} {scr : Option (Nat × (Nat → Int32))} {cd : List (Nat × JA)} (hE : jEok tab d E) (hcd : ∀ q ∈ cd, JOk tab cc own nm nL scr q.1 q.2) {o : JO} {hf : JH} : ∀ (k : Nat) (f : JF) (h : JH), JG E cd k f h o hf → jLe h hf
  | 0, _, _, h => h.elim
  | k + 1, (pc, l, st), h, ⟨act, hlk, hst⟩ => by
    have ok := hcd _ (jlk_mem hlk)
    cases ha : act (pc, l, st) h with
    | none => rw [ha] at hst; exact hst.elim
    | some z =>
      rw [ha] at hst
      obtain ⟨f', h'⟩ | ⟨μ, as, f', ct⟩ | v | x := z
      · exact (ok.1 l st h f' h' ha).trans (run_le hE hcd k f' h' hst)
      · rcases hst with ⟨rv, h1, e1, -, e3⟩ | ⟨X, kv, h1, e1, -, -, rfl⟩
        · exact ((hE μ as h).1 rv h1 e1).1.trans (run_le hE hcd k _ h1 e3)
        · exact ((hE μ as h).2 X _ e1).1.1
      · obtain ⟨-, rfl⟩ := hst
        exact jLe.rf
      · obtain ⟨-, rfl⟩ := hst
        exact jbump_le h
theorem run_ok {E : JE} {d : Nat} {cc : ByteArray} {own : String} {nm : String × List (Nat × Nat × Nat × Nat)} {nL : Nat} {scr : Option (Nat × (Nat → Int32))} {cd : List (Nat × JA)} (hE : jEok tab d E) (hcd : ∀ q ∈ cd, JOk tab cc own nm nL scr q.1 q.2) {X : JX} (C : jC cc own nm nL (d + 1) scr X) {o : JO} {hf : JH} (hend : jFin cc X (d + 1) o hf)
    (b1 : hf.2.1 ≤ (match X with | (_, _, _, _, (_, _, cE, _), _) => cE)) (b2 : hf.2.2.1 ≤ (match X with | (_, _, _, _, (_, _, _, sE), _) => sE)) : ∀ (k : Nat) (f : JF) (h : JH), JG E cd k f h o hf → jW X f h
  | 0, _, _, h => h.elim
  | k + 1, (pc, l, st), h, ⟨act, hlk, hst⟩ => by
    have ok : jDo tab cc (d + 1) X (pc, l, st) h (act (pc, l, st) h) := (hcd _ (jlk_mem hlk)).2 (d + 1) X (Nat.succ_pos d) C l st h
    cases ha : act (pc, l, st) h with
    | none => rw [ha] at hst; exact hst.elim
    | some z =>
      rw [ha] at hst ok
      obtain ⟨f', h'⟩ | ⟨μ, as, f', ct⟩ | v | x := z
      · have hle := run_le hE hcd k f' h' hst
        exact ok (Nat.le_trans hle.2.1 b1) (Nat.le_trans hle.2.2 b2) (run_ok hE hcd C hend b1 b2 k f' h' hst)
      · rcases hst with ⟨rv, h1, e1, e2, e3⟩ | ⟨x, kv, h1, e1, e2, rfl, rfl⟩
        · have hle := run_le hE hcd k _ h1 e3
          exact (ok d rfl).1 rv h1 ((hE μ as h).1 rv h1 e1) e2 (Nat.le_trans hle.2.1 b1) (Nat.le_trans hle.2.2 b2) (run_ok hE hcd C hend b1 b2 k _ h1 e3)
        · exact (ok d rfl).2 x kv _ ((hE μ as h).2 x _ e1) e2 b1 b2 hend
      · obtain ⟨rfl, rfl⟩ := hst
        exact ok hend
      · obtain ⟨rfl, rfl⟩ := hst
        exact ok hend.1 (hend.2 h rfl)
/-- what the tables say of a method -/
def jTab (tab : Nat → JM5) (code : Nat → List (Nat × JA)) : Prop := ∀ μ, plainName (tab μ).1.cls = true ∧ ∀ q ∈ code μ, JOk tab (tab μ).2.1 (tab μ).1.cls ((tab μ).1.name, (tab μ).2.2.2.2.getD []) (tab μ).2.2.1 none q.1 q.2
theorem jrv_bool {x : Int32} (h : x = 0 ∨ x = 1) : narrow .boolean (.int x) = .int x := by
  rcases h with rfl | rfl <;> decide +kernel
/-- a method's own end -/
theorem j_end {p : Program} {l : Launch} {e : Env} {R : Room} {s : State} {m : MethodId} {args : Array Value} {below : List Frame} {meth : Method} {c : Code} {D : va_G} {g : Nat → ClassId} {nL : Nat} {a0 : Nat → Nat} {M : JM5} {own : String} {nm : String × List (Nat × Nat × Nat × Nat)} {dd : Nat} {h h1 : JH} {r : Option Value} {mc ms : Nat}
    (hx : p.tables.exec = Jvm.exec) (hb : c.code = M.2.1) (hr : meth.sig.returnType = M.2.2.2.1) (hlocks : meth.locks = false) (hv : jrv M.2.2.2.1 r) (hle : jLe h h1) (hmc : mc = h1.2.1 - h.2.1) (hms : ms = h1.2.2.1 - h.2.2.1) :
    jEnd M.2.1 ((p, l, e, R, s), (m, args, below, meth, c), (D, g), (jA a0 h.1 s.heap.size, nL, h.1, a0), (h.2.1, h.2.2.1, h1.2.1, h1.2.2.1), MQ below (fun _ st oc t => jPost D g a0 h h1 s.heap.size r st oc t) args s mc ms (jA a0 h.1 s.heap.size)) r h1 := by
  intro a ls H locs cells slots pc i hq g1 g2 hd hret
  obtain ⟨kR, kS, k3, k4, k5, k6, k7, k8⟩ := hq
  obtain ⟨z1, z2, z3⟩ := id hle
  have hpost : ∀ t : State, t.heap = H → s.WarmedH t.vm → jPost D g a0 h h1 s.heap.size r s (.returned (r.map (tv a))) t := fun t ht hW =>
    ⟨⟨a, rfl, k3, k4, k5, by rw [ht]; exact kR⟩, kS.F ht⟩
  refine W.widen (k := mc) (n := ms) (by omega) (by omega) ?_
  rcases hret with ⟨rfl, x, rfl⟩ | ⟨rfl, x, rfl⟩ | ⟨rfl, x, rfl⟩ | ⟨rfl, rfl⟩
  · cases hrt : M.2.2.2.1 with
    | none => rw [hrt] at hv; exact hv.elim
    | some ty =>
      rw [hrt] at hv hr
      cases ty <;> first | exact hv.elim | skip
      · exact W.iret hx hb hr hpost kS.2.2 hd hlocks
      · exact W.zret hx hb hr (jrv_bool hv) hpost kS.2.2 hd hlocks
  · cases hrt : M.2.2.2.1 with
    | none => rw [hrt] at hv; exact hv.elim
    | some ty =>
      rw [hrt] at hv hr
      cases ty <;> first | exact hv.elim | skip
      exact W.lret hx hb hr hpost kS.2.2 hd hlocks
  · cases hrt : M.2.2.2.1 with
    | none => rw [hrt] at hv; exact hv.elim
    | some ty =>
      rw [hrt] at hv hr
      cases ty <;> first | exact hv.elim | skip
      exact W.dret hx hb hr hpost kS.2.2 hd hlocks
  · cases hrt : M.2.2.2.1 with
    | none =>
      rw [hrt] at hr
      exact W.vret hx hb hr hpost kS.2.2 hd hlocks
    | some ty => rw [hrt] at hv; cases ty <;> exact hv.elim
end JSND
