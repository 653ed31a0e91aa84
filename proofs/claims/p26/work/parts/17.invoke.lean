section JIV
variable {tab : Nat → JM5} {cc : ByteArray} {own : String} {nm : String × List (Nat × Nat × Nat × Nat)} {nL : Nat} {scr : Option (Nat × (Nat → Int32))} {pc : Nat}
theorem jPre.blind (D : va_G) (g : Nat → ClassId) (a : Nat → Nat) (h : JH) (sz : Nat) (av : List Value) : FrameBlind (va_Pc av (jPre D g a h sz)) := by
  intro v U fr mk q
  obtain ⟨q1, q2, q3, q4, q5⟩ := q
  exact ⟨q1, q2, jK.warm (s := U) (U := U.calling fr mk v) (State.WarmedH.refl U) q3, q4, ⟨vx_Zq.moved (u := U) (U := U.calling fr mk v) (Vm.Alike.refl U.vm) q5.1, vx_Zq.moved (u := U) (U := U.calling fr mk v) (Vm.Alike.refl U.vm) q5.2⟩⟩
section JIV2
variable {p : Program} {l : Launch} {e : Env} {R : Room} {s : State} {m : MethodId} {args : Array Value} {below : List Frame} {meth : Method} {c : Code} {D : va_G} {g : Nat → ClassId} {A : Nat → Prop} {n n0 : Nat} {a0 : Nat → Nat} {c0 s0 cE sE : Nat} {Q : State → Prop}
/-- what a run hands on is inside what it may write -/
theorem jQ.sub {nL dd : Nat} (C : jC cc own nm nL dd scr ((p, l, e, R, s), (m, args, below, meth, c), (D, g), (A, n, n0, a0), (c0, s0, cE, sE), Q)) {a : Nat → Nat} {h : JH} {H : Heap} {locs : List Loc} {cells slots : Nat}
    (hq : jQ ((p, l, e, R, s), (m, args, below, meth, c), (D, g), (A, n, n0, a0), (c0, s0, cE, sE), Q) a h H locs cells slots) : ∀ x, jA a h.1 H.size x → A x := by
  intro x hx
  rcases hx with ⟨q, h0, h1, rfl⟩ | hx
  · exact hq.inA C h0 h1
  · obtain ⟨-, -, -, -, -, -, -, -, ⟨-, hB⟩, -⟩ := C
    exact hB x (Nat.le_trans hq.2.1.1 hx)
theorem jQ.pre {nL dd : Nat} (C : jC cc own nm nL dd scr ((p, l, e, R, s), (m, args, below, meth, c), (D, g), (A, n, n0, a0), (c0, s0, cE, sE), Q)) {a : Nat → Nat} {h : JH} {H : Heap} {locs : List Loc} {cells slots : Nat}
    (hq : jQ ((p, l, e, R, s), (m, args, below, meth, c), (D, g), (A, n, n0, a0), (c0, s0, cE, sE), Q) a h H locs cells slots) {U : State} (hU : U.heap = H) (hW : s.WarmedH U.vm) : jPre D g a h H.size U := by
  have hsub := hq.sub C
  obtain ⟨-, -, -, -, -, hK, ⟨hZ1, hZ2⟩, -⟩ := C
  obtain ⟨k1, ⟨v1, v2, v3⟩, -⟩ := hq
  subst hU
  exact ⟨rfl, jK.warm hW hK, k1, (vx_Zq.moved hW.alike (hZ1.kept v2)).narrow hsub, (vx_Zq.moved hW.alike (hZ2.kept v2)).narrow hsub⟩
/-- behind a call that returns -/
theorem j_after {nL dd : Nat} (C : jC cc own nm nL dd scr ((p, l, e, R, s), (m, args, below, meth, c), (D, g), (A, n, n0, a0), (c0, s0, cE, sE), Q)) {a : Nat → Nat} {h h1 : JH} {H : Heap} {locs : List Loc} {cells slots : Nat} {ls : Array Slot} {lv : List (Nat × Value)} {st0 st' : List Value} {r : Option Value}
    (hl : lv_has ls n (lv.map (fun q => (q.1, tv a q.2))))
    (hq : jQ ((p, l, e, R, s), (m, args, below, meth, c), (D, g), (A, n, n0, a0), (c0, s0, cE, sE), Q) a h H locs cells slots)
    (hr : va_Run p l e R s m args below meth c H locs cells slots (h1.2.1 - h.2.1) (h1.2.2.1 - h.2.2.1) (F0 m pc ls st0) (st'.map (tv a)) (fun st oc t => jPost D g a h h1 H.size r st oc t) (jA a h.1 H.size))
    (hle : jLe h h1) (hfr : h1.1 = h.1 ∨ jfr h.1 (pc + 3, lv, st') = true) (b1 : h1.2.1 ≤ cE) (b2 : h1.2.2.1 ≤ sE)
    (k : jW ((p, l, e, R, s), (m, args, below, meth, c), (D, g), (A, n, n0, a0), (c0, s0, cE, sE), Q) (pc + 3, lv, r.toList ++ st') h1) : W p l e R s m args below meth c H locs cells slots Q (F0 m pc ls st0) := by
  have hsub := hq.sub C
  intro T hT X
  obtain ⟨v, st₀, t, T', L, h0, X', hL, e1, e2, ⟨⟨a', hv, k1, k2, k3, kR⟩, hz, hk⟩, st⟩ := hr T hT X
  cases hv
  rw [h0] at hz hk
  obtain ⟨j1, ⟨v1, v2, v3⟩, j3, j4, j5, j6, j7, j8⟩ := hq
  have hfa : lv.map (fun q => (q.1, tv a' q.2)) = lv.map (fun q => (q.1, tv a q.2)) ∧ st'.map (tv a') = st'.map (tv a) := by
    rcases hfr with h9 | h9
    · rw [k2 h9]; exact ⟨rfl, rfl⟩
    · unfold jfr at h9
      rw [Bool.and_eq_true] at h9
      exact ⟨tvl_congr k1 h9.1, tvs_congr k1 h9.2⟩
  have hqn : jQ ((p, l, e, R, s), (m, args, below, meth, c), (D, g), (A, n, n0, a0), (c0, s0, cE, sE), Q) a' h1 T'.heap (locs ++ L) (cells + (h1.2.1 - h.2.1)) (slots + (h1.2.2.1 - h.2.2.1)) := by
    refine ⟨by rw [e1]; exact kR, ⟨Nat.le_trans v1 (by rw [e1]; exact hz), fun q g1 g2 => ?_, fun q hq => ?_⟩, fun q hq => ?_, fun h9 => ?_, fun q g1 g2 => ?_, Nat.le_trans j6 hle.1, ?_, ?_⟩
    · rw [e1, hk q (Nat.lt_of_lt_of_le g1 v1) (fun z => g2 (hsub q z))]
      exact v2 q g1 g2
    · rcases List.mem_append.mp hq with h | h
      · exact v3 q h
      · exact hsub _ (hL q h)
    · rw [k1 q (Nat.lt_of_lt_of_le hq j6)]
      exact j3 q hq
    · have hh : h.1 = n0 := Nat.le_antisymm (by rw [← h9]; exact hle.1) j6
      rw [k2 (by omega)]
      exact j4 hh
    · rcases Nat.lt_or_ge q h.1 with h9 | h9
      · rw [k1 q h9]
        exact j5 q g1 h9
      · exact Nat.le_trans v1 (k3 q h9 g2)
    · have := hle.2.1; omega
    · have := hle.2.2; omega
  have k' := k a' ls T'.heap (locs ++ L) _ _ (by show lv_has ls n (lv.map _); rw [hfa.1]; exact hl) hqn b1 b2
  have e9 : (r.toList ++ st').map (tv a') = (r.map (tv a')).toList ++ st'.map (tv a) := by
    rw [List.map_append, hfa.2]
    cases r <;> rfl
  obtain ⟨t2, a1, b3⟩ := k' T' rfl X'
  refine ⟨t2, st t2 ?_, b3⟩
  show Steps p.tables e below (T'.setTop (F0 m (pc + 3) ls ((r.map (tv a')).toList ++ st'.map (tv a)))) t2
  rw [← e9]
  exact a1
end JIV2
/-! calls: of an own object, of a plain function, of a constructor -/
def a_inv (μ k ci : Nat) (ct : List (String × Int32)) : JA := fun f h => match f.2.2.drop k with
  | .ref q :: r => match h.2.2.2 q with
    | .inr (c, _) => if c = ci ∧ jcat r ≤ 8 then some (.inr (.inl (μ, .ref q :: (f.2.2.take k).reverse, (f.1 + 3, f.2.1, r), ct))) else none
    | _ => none
  | _ => none
def a_ins (μ k : Nat) : JA := fun f _ => if k ≤ f.2.2.length ∧ jcat (f.2.2.drop k) ≤ 8 then some (.inr (.inl (μ, (f.2.2.take k).reverse, (f.1 + 3, f.2.1, f.2.2.drop k), []))) else none
def a_ini (μ k : Nat) : JA := fun f _ => match f.2.2.drop k with
  | .ref q :: r => if jcat r ≤ 8 then some (.inr (.inl (μ, .ref q :: (f.2.2.take k).reverse, (f.1 + 3, f.2.1, r), []))) else none
  | _ => none
theorem k_call0 {act : JA} (h0 : ∀ f h y, act f h ≠ some (.inl y)) (h1 : ∀ f h y, act f h ≠ some (.inr (.inr y)))
    (hk : ∀ l st h μ as f' ct, act (pc, l, st) h = some (.inr (.inl (μ, as, f', ct))) → ∀ dd X, 1 ≤ dd → jC cc own nm nL dd scr X → jCall tab cc dd X μ as f' ct (pc, l, st) h) : JOk tab cc own nm nL scr pc act := by
  refine ⟨fun l st h f' h' e => absurd e (h0 _ _ _), fun dd X hdd C l st h => ?_⟩
  cases hs : act (pc, l, st) h with
  | none => trivial
  | some z =>
    obtain z | ⟨μ, as, f', ct⟩ | z := z
    · exact absurd hs (h0 _ _ _)
    · exact hk l st h μ as f' ct hs dd X hdd C
    · exact absurd hs (h1 _ _ _)
theorem drop_cons {α : Type} {l : List α} {k : Nat} {x : α} {r : List α} (h : l.drop k = x :: r) : l = l.take k ++ x :: r ∧ (l.take k).length = k := by
  refine ⟨by rw [← h, List.take_append_drop], ?_⟩
  rw [List.length_take]
  have : (l.drop k).length = r.length + 1 := by rw [h]; rfl
  rw [List.length_drop] at this
  omega
end JIV
