/-! actions on the heap -/
theorem va_P1 {D : va_G} {cl : List vw_C} {x : Nat × va_E} {H : Heap} (h : va_at D cl x H) : va_P D cl [x] H := fun k q hk => by
  have hz : k < 1 := (List.getElem?_eq_some_iff.mp hk).1
  rw [show k = 0 by omega] at hk
  cases hk
  exact h
section JHEAP
theorem jR.ok {D : va_G} {g : Nat → ClassId} {a : Nat → Nat} {n : Nat} {M : JM} {H : Heap} (h : jR D g a n M H) {q : Nat} (hne : M q ≠ .inr (99, [])) : 0 < q ∧ q < n := by
  obtain ⟨-, -, -, -, h5⟩ := h
  rcases Nat.lt_or_ge 0 q with h1 | h1
  · rcases Nat.lt_or_ge q n with h2 | h2
    · exact ⟨h1, h2⟩
    · exact absurd (h5 q (Or.inr h2)) hne
  · exact absurd (h5 q (Or.inl (by omega))) hne
theorem jR.okr {D : va_G} {g : Nat → ClassId} {a : Nat → Nat} {n : Nat} {M : JM} {H : Heap} (h : jR D g a n M H) {q ci : Nat} {fs : List Value} (hM : M q = .inr (ci, fs)) (hc : ci < 99) : 0 < q ∧ q < n :=
  h.ok (by rw [hM]; intro e; cases e; omega)
theorem jR.okl {D : va_G} {g : Nat → ClassId} {a : Nat → Nat} {n : Nat} {M : JM} {H : Heap} (h : jR D g a n M H) {q t : Nat} {y : vp_A} (hM : M q = .inl (t, y)) : 0 < q ∧ q < n :=
  h.ok (by rw [hM]; intro e; cases e)
theorem jR.set {D : va_G} {g : Nat → ClassId} {a : Nat → Nat} {n : Nat} {M : JM} {H H1 : Heap} (h : jR D g a n M H) {q : Nat} (h0 : 0 < q) (hq : q < n) {c : JC} (hc : jwf n c) (hat : va_at D vwCl (a q, te g a c) H1) (ho : ∀ x : Nat, x ≠ a q → H1[x]? = H[x]?) : jR D g a n (va_up M q c) H1 := by
  obtain ⟨h1, h2, h3, h4, h5⟩ := h
  refine ⟨fun r hr hr2 => ?_, h2, fun r hr hr2 => ?_, h4, fun r hr => ?_⟩
  · by_cases e : r = q
    · subst e
      rw [va_up_self]
      exact hat
    · rw [va_up_ne _ _ e]
      exact (h1 r hr hr2).kept (ho _ (fun e2 => e (h2 r q hr hr2 h0 hq e2)))
  · by_cases e : r = q
    · subst e
      rw [va_up_self]
      exact hc
    · rw [va_up_ne _ _ e]
      exact h3 r hr hr2
  · rw [va_up_ne _ _ (by omega)]
    exact h5 r hr
/-- the cells of a run lie where it may write -/
theorem jQ.inA {cc : ByteArray} {own : String} {nm : String × List (Nat × Nat × Nat × Nat)} {nL dd : Nat} {scr : Option (Nat × (Nat → Int32))} {p : Program} {l : Launch} {e : Env} {R : Room} {s : State} {m : MethodId} {args : Array Value} {below : List Frame} {meth : Method} {c : Code} {D : va_G} {g : Nat → ClassId} {A : Nat → Prop} {n n0 : Nat} {a0 : Nat → Nat} {c0 s0 cE sE : Nat} {Q : State → Prop}
    (C : jC cc own nm nL dd scr ((p, l, e, R, s), (m, args, below, meth, c), (D, g), (A, n, n0, a0), (c0, s0, cE, sE), Q)) {a : Nat → Nat} {h : JH} {H : Heap} {locs : List Loc} {cells slots : Nat}
    (hq : jQ ((p, l, e, R, s), (m, args, below, meth, c), (D, g), (A, n, n0, a0), (c0, s0, cE, sE), Q) a h H locs cells slots) {q : Nat} (h0 : 0 < q) (h1 : q < h.1) : A (a q) := by
  obtain ⟨-, -, -, -, -, -, -, -, ⟨hA, hB⟩, -⟩ := C
  obtain ⟨-, -, k1, -, k2, -⟩ := hq
  rcases Nat.lt_or_ge q n0 with hl | hl
  · rw [k1 q hl]
    exact hA q h0 hl
  · exact hB _ (k2 q hl h1)
/-- a write into one cell -/
theorem jQ.put {cc : ByteArray} {own : String} {nm : String × List (Nat × Nat × Nat × Nat)} {nL dd : Nat} {scr : Option (Nat × (Nat → Int32))} {p : Program} {l : Launch} {e : Env} {R : Room} {s : State} {m : MethodId} {args : Array Value} {below : List Frame} {meth : Method} {c : Code} {D : va_G} {g : Nat → ClassId} {A : Nat → Prop} {n n0 : Nat} {a0 : Nat → Nat} {c0 s0 cE sE : Nat} {Q : State → Prop}
    (C : jC cc own nm nL dd scr ((p, l, e, R, s), (m, args, below, meth, c), (D, g), (A, n, n0, a0), (c0, s0, cE, sE), Q)) {a : Nat → Nat} {h : JH} {H H1 : Heap} {locs locs1 : List Loc} {cells slots : Nat}
    (hq : jQ ((p, l, e, R, s), (m, args, below, meth, c), (D, g), (A, n, n0, a0), (c0, s0, cE, sE), Q) a h H locs cells slots) {q : Nat} (h0 : 0 < q) (h1 : q < h.1) {y : JC} (hy : jwf h.1 y) (hat : va_at D vwCl (a q, te g a y) H1) (hz : H1.size = H.size) (ho : ∀ x : Nat, x ≠ a q → H1[x]? = H[x]?)
    (hl : ∀ z ∈ locs1, z ∈ locs ∨ z.base = a q) :
    jQ ((p, l, e, R, s), (m, args, below, meth, c), (D, g), (A, n, n0, a0), (c0, s0, cE, sE), Q) a (h.1, h.2.1, h.2.2.1, va_up h.2.2.2 q y) H1 locs1 cells slots := by
  have hA := hq.inA C h0 h1
  obtain ⟨k0, ⟨k1, k2, k3⟩, k4⟩ := hq
  refine ⟨k0.set h0 h1 hy hat ho, ⟨by rw [hz]; exact k1, fun x hx hxA => ?_, fun z hz => ?_⟩, k4⟩
  · rw [ho x (fun e => hxA (by rw [e]; exact hA))]
    exact k2 x hx hxA
  · rcases hl z hz with h9 | h9
    · exact k3 z h9
    · rw [h9]; exact hA
variable {p : Program} {l : Launch} {e : Env} {R : Room} {s : State} {m : MethodId} {args : Array Value} {below : List Frame} {meth : Method} {c : Code} {H : Heap} {locs : List Loc} {cells slots : Nat} {Q : State → Prop}
variable {cc : ByteArray} {pc : Nat} {ls : Array Slot} {rest : List Value} {D : va_G} {a : Nat} {tys : List (ClassId × FieldType)}
/-- putfield, by the cell alone -/
theorem jw_put (hexec : p.tables.exec = Jvm.exec) (hb : c.code = cc) {own C : String} {T : u_T} {N ci index : Nat} (hts : ∀ w ∈ GW, w.before args s = true) (hin : ∀ w ∈ u_ws C T N, w ∈ GW) (ty0 : Nat → FieldType) (hty : ∀ k, k < N → parseFieldDescriptor (T k).2.2.1 = some (ty0 k)) (hnm : ∀ a, a < N → ∀ b, b < N → a ≠ b → (T a).2.1 ≠ (T b).2.1) (hown : s.vm.findClass own = some m.cls) (hK : va_K D vwCl tys s) {fs : List Value} (he : va_at D vwCl (a, .inr (ci, fs)) H) (hc : vwCl[ci]? = some (C, T, N)) (k : Nat) (hk : k < N) (hlink : (Cond.fieldLink own index (T k).1 (T k).2.1 (T k).2.2.1).before args s = true) (hfin : (T k).2.2.2 = false) {ty : FieldType} {v : Value} (hd : parseFieldDescriptor (T k).2.2.1 = some ty) (hn : narrow ty v = v) (hfit : fits ty v = true) (hl : k < fs.length)
    (hdg : decode cc pc = .ok (.putfield index, 3)) (kk : ∀ (H1 : Heap) (i : Nat), va_at D vwCl (a, .inr (ci, fs.set k v)) H1 → H1.size = H.size → (∀ q : Nat, q ≠ a → H1[q]? = H[q]?) → W p l e R s m args below meth c H1 (locs ++ [⟨a, i⟩]) cells slots Q (F0 m (pc + 3) ls rest)) : W p l e R s m args below meth c H locs cells slots Q (F0 m pc ls (v :: .ref a :: rest)) := by
  have hap := va_apart (own := own) hts hin ty0 hty hnm hK hc
  obtain ⟨r, h1, cell, q1, q2, q3, q4⟩ := he
  have hr : r = (C, T, N) := Option.some.inj (h1.symm.trans hc)
  subst hr
  obtain ⟨hS, hfc, kC, hkC, hkind⟩ := hK.1 ci _ hc
  obtain ⟨cf, kf, fi, f, hi, hsl⟩ := hS k hk
  have hlay := hts _ (hin _ (u_in_lay hk))
  unfold u_lay at hlay
  rw [if_neg (by rw [hfin]; decide)] at hlay
  have hst := (u_facts hfc hkC (u_lays hts hin hk) hi).1
  have h6 := u_store hfc hkC hkind hlay hi hd hn hfit
  refine W.putK hexec hb (f := f) ⟨hown, hlink, ⟨_, _, _, hi⟩, hst⟩ (by rw [q2]; exact h6) q1 q3 (by rw [hsl]; exact k2_hasslot (q4 k hk)) rfl rfl hdg fun H' e1 e2 e3 => ?_
  rw [hsl] at e1 ⊢
  exact kk H' _ ⟨_, hc, t_OB.to (V := updV (vp_V fs) k v) ⟨_, e1, q2, q3, t_set q4 hap hk v⟩ (fun j _ => vp_updV_set hl v j)⟩ e2 e3
/-- .. of a final field, in its constructor -/
theorem jw_putF (hexec : p.tables.exec = Jvm.exec) (hb : c.code = cc) {own C : String} {T : u_T} {N ci index : Nat} (hts : ∀ w ∈ GW, w.before args s = true) (hin : ∀ w ∈ u_ws C T N, w ∈ GW) (ty0 : Nat → FieldType) (hty : ∀ k, k < N → parseFieldDescriptor (T k).2.2.1 = some (ty0 k)) (hnm : ∀ a, a < N → ∀ b, b < N → a ≠ b → (T a).2.1 ≠ (T b).2.1) (hown : s.vm.findClass own = some m.cls) (hK : va_K D vwCl tys s) {fs : List Value} (he : va_at D vwCl (a, .inr (ci, fs)) H) (hc : vwCl[ci]? = some (C, T, N)) (k : Nat) (hk : k < N) (hlink : (Cond.fieldLink own index (T k).1 (T k).2.1 (T k).2.2.1).before args s = true) (hfin : (T k).2.2.2 = true) (hin2 : meth.name = "<init>") (hdecl : (T k).1 = own) {ty : FieldType} {v : Value} (hd : parseFieldDescriptor (T k).2.2.1 = some ty) (hn : narrow ty v = v) (hfit : fits ty v = true) (hl : k < fs.length)
    (hdg : decode cc pc = .ok (.putfield index, 3)) (kk : ∀ (H1 : Heap) (i : Nat), va_at D vwCl (a, .inr (ci, fs.set k v)) H1 → H1.size = H.size → (∀ q : Nat, q ≠ a → H1[q]? = H[q]?) → W p l e R s m args below meth c H1 (locs ++ [⟨a, i⟩]) cells slots Q (F0 m (pc + 3) ls rest)) : W p l e R s m args below meth c H locs cells slots Q (F0 m pc ls (v :: .ref a :: rest)) := by
  have hap := va_apart (own := own) hts hin ty0 hty hnm hK hc
  obtain ⟨r, h1, cell, q1, q2, q3, q4⟩ := he
  have hr : r = (C, T, N) := Option.some.inj (h1.symm.trans hc)
  subst hr
  obtain ⟨hS, hfc, kC, hkC, hkind⟩ := hK.1 ci _ hc
  obtain ⟨cf, kf, fi, f, hi, hsl⟩ := hS k hk
  have hlay := hts _ (hin _ (u_in_lay hk))
  unfold u_lay at hlay
  rw [if_pos hfin] at hlay
  have hst := (u_facts hfc hkC (u_lays hts hin hk) hi).1
  have hcf : m.cls = cf := by
    obtain ⟨_, _, c', _, _, _, -, -, hf', -, -, -, hown2, -⟩ := Cond.laysFinal_spec hlay
    have e1 : c' = cf := by have := hi.symm.trans hf'; simp at this; exact this.1.symm
    rw [hdecl] at hown2
    rw [← e1]; exact Option.some.inj (hown.symm.trans hown2)
  have h6 := u_fits hfc hkC hkind (Or.inr hlay) hi hd hn hfit
  refine W.putFinK hexec hb hown hlink hi hst hcf hin2 (by rw [q2]; exact h6) q1 q3 (by rw [hsl]; exact k2_hasslot (q4 k hk)) rfl rfl hdg fun H' e1 e2 e3 => ?_
  rw [hsl] at e1 ⊢
  exact kk H' _ ⟨_, hc, t_OB.to (V := updV (vp_V fs) k v) ⟨_, e1, q2, q3, t_set q4 hap hk v⟩ (fun j _ => vp_updV_set hl v j)⟩ e2 e3
end JHEAP
