section JMK
variable {tab : Nat → JM5} {cc : ByteArray} {own : String} {nm : String × List (Nat × Nat × Nat × Nat)} {nL : Nat} {scr : Option (Nat × (Nat → Int32))} {pc : Nat}
/-- a new cell gets the next number -/
theorem jQ.new {p : Program} {l : Launch} {e : Env} {R : Room} {s : State} {m : MethodId} {args : Array Value} {below : List Frame} {meth : Method} {c : Code} {D : va_G} {g : Nat → ClassId} {A : Nat → Prop} {n n0 : Nat} {a0 : Nat → Nat} {c0 s0 cE sE : Nat} {Q : State → Prop}
    {a : Nat → Nat} {h : JH} {H H1 : Heap} {locs : List Loc} {cells slots N : Nat}
    (hq : jQ ((p, l, e, R, s), (m, args, below, meth, c), (D, g), (A, n, n0, a0), (c0, s0, cE, sE), Q) a h H locs cells slots) {y : JC} (hy : jwf h.1 y) (hat : va_at D vwCl (H.size, te g a y) H1) (hz : H1.size = H.size + 1) (ho : ∀ x : Nat, x < H.size → H1[x]? = H[x]?) :
    jQ ((p, l, e, R, s), (m, args, below, meth, c), (D, g), (A, n, n0, a0), (c0, s0, cE, sE), Q) (va_up a h.1 H.size) (h.1 + 1, h.2.1 + 1, h.2.2.1 + N, va_up h.2.2.2 h.1 y) H1 locs (cells + 1) (slots + N) := by
  obtain ⟨⟨k1, k2, k3, k4, k5⟩, ⟨v1, v2, v3⟩, k6, k7, k8, k9, k10, k11⟩ := hq
  have hag : ∀ q, q < h.1 → va_up a h.1 H.size q = a q := fun q hq => va_up_ne _ _ (Nat.ne_of_lt hq)
  have hlt : ∀ q, 0 < q → q < h.1 → a q < H.size := fun q h0 h1 => (k1 q h0 h1).lt
  refine ⟨⟨fun q h0 h1 => ?_, fun q r q0 q1 r0 r1 e1 => ?_, fun q h0 h1 => ?_, Nat.succ_pos _, fun q h0 => ?_⟩, ⟨by rw [hz]; omega, fun x hx hxA => ?_, v3⟩, fun q h0 => ?_, fun h0 => ?_, fun q h0 h1 => ?_, by show n0 ≤ h.1 + 1; omega, by show h.2.1 + 1 = _; omega, by show h.2.2.1 + N = _; omega⟩
  · by_cases e1 : q = h.1
    · subst e1
      show va_at D vwCl (va_up a h.1 H.size h.1, te g (va_up a h.1 H.size) (va_up h.2.2.2 h.1 y h.1)) H1
      rw [va_up_self, va_up_self, te_congr hag hy]
      exact hat
    · have h2 : q < h.1 := by have : q < h.1 + 1 := h1; omega
      show va_at D vwCl (va_up a h.1 H.size q, te g (va_up a h.1 H.size) (va_up h.2.2.2 h.1 y q)) H1
      rw [va_up_ne _ _ e1, va_up_ne _ _ e1, te_congr hag (k3 q h0 h2)]
      exact (k1 q h0 h2).kept (ho _ (hlt q h0 h2))
  · have q2 : q < h.1 + 1 := q1
    have r2 : r < h.1 + 1 := r1
    by_cases eq : q = h.1
    · by_cases er : r = h.1
      · omega
      · have := hlt r r0 (by omega)
        rw [eq, va_up_self, va_up_ne _ _ er] at e1
        omega
    · by_cases er : r = h.1
      · have := hlt q q0 (by omega)
        rw [er, va_up_self, va_up_ne _ _ eq] at e1
        omega
      · rw [va_up_ne _ _ eq, va_up_ne _ _ er] at e1
        exact k2 q r q0 (by omega) r0 (by omega) e1
  · have h2 : q < h.1 + 1 := h1
    show jwf (h.1 + 1) (va_up h.2.2.2 h.1 y q)
    by_cases e1 : q = h.1
    · rw [e1, va_up_self]
      exact jwf_mono (Nat.le_succ _) hy
    · rw [va_up_ne _ _ e1]
      exact jwf_mono (Nat.le_succ _) (k3 q h0 (by omega))
  · show va_up h.2.2.2 h.1 y q = _
    have h2 : q = 0 ∨ h.1 + 1 ≤ q := h0
    rw [va_up_ne _ _ (by omega)]
    exact k5 q (by omega)
  · rw [ho x (Nat.lt_of_lt_of_le hx v1)]
    exact v2 x hx hxA
  · rw [hag q (by omega)]
    exact k6 q h0
  · have h2 : h.1 + 1 = n0 := h0
    omega
  · have h2 : q < h.1 + 1 := h1
    by_cases e1 : q = h.1
    · rw [e1, va_up_self]
      exact v1
    · rw [va_up_ne _ _ e1]
      exact k8 q h0 (by omega)
/-- actions that make a cell -/
def jMk (tab : Nat → JM5) (cc : ByteArray) (own : String) (nm : String × List (Nat × Nat × Nat × Nat)) (nL : Nat) (scr : Option (Nat × (Nat → Int32))) (pc : Nat) (act : JA) : Prop := ∀ l st h f' h', act (pc, l, st) h = some (.inl (f', h')) →
  ∃ (y : JC) (N : Nat) (st' : List Value), h' = (h.1 + 1, h.2.1 + 1, h.2.2.1 + N, va_up h.2.2.2 h.1 y) ∧ f'.2.1 = l ∧ f'.2.2 = .ref h.1 :: st' ∧ l.all (fun q => vfb h.1 q.2) = true ∧ st'.all (vfb h.1) = true ∧ (∀ n, jwf n y) ∧
  ∀ dd (p : Program) (l0 : Launch) (e : Env) (R : Room) (s : State) (m : MethodId) (args : Array Value) (below : List Frame) (meth : Method) (c : Code) (D : va_G) (g : Nat → ClassId) (A : Nat → Prop) (n n0 : Nat) (a0 : Nat → Nat) (c0 s0 cE sE : Nat) (Q : State → Prop), 1 ≤ dd →
    jC cc own nm nL dd scr ((p, l0, e, R, s), (m, args, below, meth, c), (D, g), (A, n, n0, a0), (c0, s0, cE, sE), Q) →
    ∀ (a : Nat → Nat) (ls : Array Slot) (H : Heap) (locs : List Loc) (cells slots : Nat), ls.size = n → cells + 1 ≤ R.cells → slots + N ≤ R.slots →
    (∀ (H1 : Heap), va_at D vwCl (H.size, te g a y) H1 → H1.size = H.size + 1 → (∀ x : Nat, x < H.size → H1[x]? = H[x]?) → W p l0 e R s m args below meth c H1 locs (cells + 1) (slots + N) Q (F0 m f'.1 ls (.ref H.size :: st'.map (tv a)))) → W p l0 e R s m args below meth c H locs cells slots Q (F0 m pc ls (st.map (tv a)))
theorem k_mk {act : JA} (h0 : ∀ f h y, act f h ≠ some (.inr y)) (hk : jMk tab cc own nm nL scr pc act) : JOk tab cc own nm nL scr pc act := by
  refine ⟨fun l st h f' h' e => ?_, fun dd X hdd C l st h => ?_⟩
  · obtain ⟨y, N, st', rfl, -⟩ := hk l st h f' h' e
    exact ⟨Nat.le_succ _, Nat.le_succ _, Nat.le_add_right _ _⟩
  · obtain ⟨⟨p, ln, e, R, s⟩, ⟨m, args, below, meth, c⟩, ⟨D, g⟩, ⟨A, n, n0, a0⟩, ⟨c0, s0, cE, sE⟩, Q⟩ := X
    cases hs : act (pc, l, st) h with
    | none => trivial
    | some z =>
      obtain ⟨f', h'⟩ | z := z
      · obtain ⟨y, N, st', rfl, hl', hst', hf1, hf2, hy, w⟩ := hk l st h f' h' hs
        intro b1 b2 k a ls H locs cells slots h1 h2 h3 h4
        have b1' : h.2.1 + 1 ≤ cE := b1
        have b2' : h.2.2.1 + N ≤ sE := b2
        obtain ⟨-, -, -, -, -, -, -, ⟨-, -, r3, r4⟩, -⟩ := id C
        obtain ⟨-, -, -, -, -, -, q1, q2⟩ := id h2
        refine w dd p ln e R s m args below meth c D g A n n0 a0 c0 s0 cE sE Q hdd C a ls H locs cells slots h1.1 (by omega) (by omega) (fun H1 e1 e2 e3 => ?_)
        have hag : ∀ q, q < h.1 → va_up a h.1 H.size q = a q := fun q hq => va_up_ne _ _ (Nat.ne_of_lt hq)
        have k' := k (va_up a h.1 H.size) ls H1 locs (cells + 1) (slots + N) (by rw [hl', tvl_congr hag hf1]; exact h1) (h2.new (hy _) e1 e2 e3) b1 b2
        rw [hst', List.map_cons, tvs_congr hag hf2] at k'
        have e9 : tv (va_up a h.1 H.size) (.ref h.1) = .ref H.size := congrArg Value.ref (va_up_self _ _ _)
        rw [e9] at k'
        exact k'
      · exact absurd hs (h0 _ _ z)
def a_new (ci N : Nat) (fs : List Value) : JA := fun f h => if f.2.1.all (fun q => vfb h.1 q.2) = true ∧ f.2.2.all (vfb h.1) = true then some (.inl ((f.1 + 3, f.2.1, .ref h.1 :: f.2.2), (h.1 + 1, h.2.1 + 1, h.2.2.1 + N, va_up h.2.2.2 h.1 (.inr (ci, fs))))) else none
theorem k_new {ci idx N : Nat} {fs : List Value} {C : String} {T : u_T} {ty0 : Nat → FieldType} (hd : decode cc pc = .ok (.new idx, 3)) (hc : vwCl[ci]? = some (C, T, N)) (hin : ∀ w ∈ u_ws C T N, w ∈ GW) (hty : ∀ k, k < N → parseFieldDescriptor (T k).2.2.1 = some (ty0 k)) (hfs : ∀ j, j < N → defaultValue (ty0 j) = vp_V fs j) (hnr : ∀ a : Nat → Nat, fs.map (tv a) = fs) (hwf : ∀ n, jwf n (.inr (ci, fs)))
    (w1 : Cond.classLink own idx C ∈ GW) (w2 : Cond.instantiable C N ∈ GW) (w3 : Cond.initialized C ∈ GW) : JOk tab cc own nm nL scr pc (a_new ci N fs) := k_mk (fun f h y e => by
  unfold a_new at e
  split at e <;> cases e) (by
  intro l st h f' h' e
  unfold a_new at e
  split at e
  · rename_i hf
    cases e
    refine ⟨_, N, st, rfl, rfl, rfl, hf.1, hf.2, hwf, fun dd p l0 e R s m args below meth c D g A n n0 a0 c0 s0 cE sE Q hdd C0 a ls H locs cells slots hsz hcl hsl kk => ?_⟩
    have hKn := C0.2.2.2.2.2.1.1.1 ci _ hc
    refine W.newcK C0.1 C0.2.1 C0.2.2.1 (C0.2.2.2.2.1 _ w1) (C0.2.2.2.2.1 _ w2) (C0.2.2.2.2.1 _ w3) rfl hd hcl hsl hKn.2.1 rfl fun H1 kC hkC e1 z1 o1 => ?_
    refine kk H1 ?_ z1 o1
    show va_at D vwCl (H.size, .inr (ci, fs.map (tv a))) H1
    rw [hnr]
    exact ⟨_, hc, (u_born ty0 C0.2.2.2.2.1 hin hKn hkC e1 hty).to hfs⟩
  · cases e)
/-- a new row of numbers -/
def a_newi (t : Nat) : JA := fun f h => match f.2.2 with
  | .int x :: r => if f.2.1.all (fun q => vfb h.1 q.2) = true ∧ r.all (vfb h.1) = true ∧ ¬ x < 0 ∧ x.toNatClampNeg ≤ 65536 then some (.inl ((f.1 + 2, f.2.1, .ref h.1 :: r), (h.1 + 1, h.2.1 + 1, h.2.2.1 + x.toNatClampNeg, va_up h.2.2.2 h.1 (.inl (t, x.toNatClampNeg, .inl (fun _ => 0)))))) else none
  | _ => none
def a_newl : JA := fun f h => match f.2.2 with
  | .int x :: r => if f.2.1.all (fun q => vfb h.1 q.2) = true ∧ r.all (vfb h.1) = true ∧ ¬ x < 0 ∧ x.toNatClampNeg ≤ 65536 then some (.inl ((f.1 + 2, f.2.1, .ref h.1 :: r), (h.1 + 1, h.2.1 + 1, h.2.2.1 + x.toNatClampNeg, va_up h.2.2.2 h.1 (.inl (2, x.toNatClampNeg, .inr (.inl (fun _ => 0))))))) else none
  | _ => none
theorem k_newi {t : Nat} {at0 : ArrayType} {ty : FieldType} (hd : decode cc pc = .ok (.newarray at0, 2)) (hat : newarray.typeOf at0 = ty) (ht : t < 7) (hT : jT t = ty) (hcls : Cond.arrayClass ty ∈ GW) (hb : componentBytes ty ≤ 8) (hdf : defaultValue ty = .int 0) (hno : ∀ (U : State) (cA : ClassId), va_RA U cA ty → U.vm.findClass ("[" ++ ty.toString) = some cA) : JOk tab cc own nm nL scr pc (a_newi t) := k_mk (fun f h y e => by
  unfold a_newi at e
  split at e
  · split at e <;> cases e
  · cases e) (by
  intro l st h f' h' e
  unfold a_newi at e
  split at e
  · rename_i x r hst
    split at e
    · rename_i hf
      cases e
      cases hst
      refine ⟨_, x.toNatClampNeg, r, rfl, rfl, rfl, hf.1, hf.2.1, fun _ => trivial, fun dd p l0 e R s m args below meth c D g A n n0 a0 c0 s0 cE sE Q hdd C0 a ls H locs cells slots hsz hcl hsl kk => ?_⟩
      subst hat
      refine va_newaK C0.1 C0.2.1 (C0.2.2.2.2.1 _ hcls) rfl hd rfl hf.2.2.1 rfl ?_ hcl hsl rfl fun H1 cA e1 z1 o1 hAr hNm => ?_
      · exact Nat.le_trans (Nat.mul_le_mul hf.2.2.2 hb) (Nat.le_of_ble_eq_true rfl)
      · have hRA := (C0.2.2.2.2.2.1.1.2 t (g t, newarray.typeOf at0) (by rw [jtys_at g ht, hT])).2
        have e2 : cA = g t := Option.some.inj (hNm.symm.trans (hno _ _ hRA))
        subst e2
        refine kk H1 ?_ z1 o1
        show H1[H.size]? = some (vp_cell _ _)
        rw [hdf] at e1
        exact e1
    · cases e
  · cases e)
/-- a new row of references -/
def a_newq (t : Nat) : JA := fun f h => match f.2.2 with
  | .int x :: r => if f.2.1.all (fun q => vfb h.1 q.2) = true ∧ r.all (vfb h.1) = true ∧ ¬ x < 0 ∧ x.toNatClampNeg ≤ 65536 then some (.inl ((f.1 + 3, f.2.1, .ref h.1 :: r), (h.1 + 1, h.2.1 + 1, h.2.2.1 + x.toNatClampNeg, va_up h.2.2.2 h.1 (.inl (t, x.toNatClampNeg, .inr (.inr (.inr (.inr (fun _ => none))))))))) else none
  | _ => none
theorem k_newq {t idx : Nat} {C : String} (hd : decode cc pc = .ok (.anewarray idx, 3)) (ht : t < 7) (hT : jT t = .object C) (hA : C ∈ AOS) (w1 : Cond.classLink own idx C ∈ GW) : JOk tab cc own nm nL scr pc (a_newq t) := k_mk (fun f h y e => by
  unfold a_newq at e
  split at e
  · split at e <;> cases e
  · cases e) (by
  intro l st h f' h' e
  unfold a_newq at e
  split at e
  · rename_i x r hst
    split at e
    · rename_i hf
      cases e
      cases hst
      refine ⟨_, x.toNatClampNeg, r, rfl, rfl, rfl, hf.1, hf.2.1, fun _ => (fun j q e => by cases e), fun dd p l0 e R s m args below meth c D g A n n0 a0 c0 s0 cE sE Q hdd C0 a ls H locs cells slots hsz hcl hsl kk => ?_⟩
      refine W.anew C0.1 C0.2.1 C0.2.2.1 (C0.2.2.2.2.1 _ w1) (va_AO.use (C0.2.2.2.2.2.1.2.2.1 C hA)) rfl hd rfl hf.2.2.1 ?_ hcl hsl fun cA kA comp f1 f2 f3 f4 => ?_
      · exact Nat.le_trans (Nat.mul_le_mul hf.2.2.2 (Nat.le_refl 4)) (Nat.le_of_ble_eq_true rfl)
      · obtain ⟨kA', comp', g1, g2, g3, g4⟩ := (C0.2.2.2.2.2.1.1.2 t (g t, .object C) (by rw [jtys_at g ht, hT])).2
        have e2 : cA = g t := Option.some.inj (f1.symm.trans g4)
        subst e2
        refine kk _ ?_ (by simp) (fun q hq => by rw [Array.getElem?_push, if_neg (Nat.ne_of_lt hq)])
        show (H.push _)[H.size]? = some (vp_cell (g t) (x.toNatClampNeg, .inr (.inr (.inr (.inr (fun j => (none : Option Nat).map a))))))
        rw [Array.getElem?_push_size, vp_cell_q]
        exact congrArg some (arrV_new (g t) x.toNatClampNeg .null)
    · cases e
  · cases e)
end JMK
