section JCO
variable {tab : Nat → JM5} {cc : ByteArray} {own : String} {nm : String × List (Nat × Nat × Nat × Nat)} {nL : Nat} {scr : Option (Nat × (Nat → Int32))} {pc : Nat}
/-- a handler: it stores the exception and answers a number -/
def JCt (cc : ByteArray) (own : String) (nm : String × List (Nat × Nat × Nat × Nat)) (nL pc : Nat) (E : String) (kv : Int32) : Prop := ∃ (pre suf : List ExceptionTableEntry) (x : ExceptionTableEntry) (name : String) (i len : Nat) (z : Int),
  tableOf nm.2 = pre ++ x :: suf ∧ (∀ y ∈ pre, covers y pc = false ∨ (y.catchType ≠ 0 ∧ ∃ nm' : String, Cond.classLink own y.catchType nm' ∈ GW ∧ (E, nm') ∈ NCS)) ∧ covers x pc = true ∧ x.catchType ≠ 0 ∧ Cond.classLink own x.catchType name ∈ GW ∧ Cond.castable E name ∈ NW ∧
  ((∃ n : Fin 4, decode cc x.handlerPc = .ok (.astore_n n, 1) ∧ (n : Nat) = i ∧ len = 1) ∨ (decode cc x.handlerPc = .ok (.astore i, 2) ∧ len = 2)) ∧ i < nL ∧ decode cc (x.handlerPc + len) = .ok (.iconst z, 1) ∧ Int32.ofInt z = kv ∧ decode cc (x.handlerPc + len + 1) = .ok (.ireturn, 1)
theorem j_handler {p : Program} {l : Launch} {e : Env} {R : Room} {s : State} {m : MethodId} {args : Array Value} {below : List Frame} {meth : Method} {c : Code} {D : va_G} {g : Nat → ClassId} {A : Nat → Prop} {n n0 : Nat} {a0 : Nat → Nat} {c0 s0 cE sE : Nat} {Q : State → Prop} {dd : Nat}
    (C : jC cc own nm nL dd scr ((p, l, e, R, s), (m, args, below, meth, c), (D, g), (A, n, n0, a0), (c0, s0, cE, sE), Q)) {E : String} {kv : Int32} (hct : JCt cc own nm nL pc E kv) {a : Nat → Nat} {h1 : JH} {H : Heap} {locs : List Loc} {cells slots : Nat} {ls : Array Slot} {lv : List (Nat × Value)} {rest : List Value}
    (hl : lv_has ls n lv) (hq : jQ ((p, l, e, R, s), (m, args, below, meth, c), (D, g), (A, n, n0, a0), (c0, s0, cE, sE), Q) a h1 H locs cells slots) (b1 : h1.2.1 ≤ cE) (b2 : h1.2.2.1 ≤ sE)
    (hend : jEnd cc ((p, l, e, R, s), (m, args, below, meth, c), (D, g), (A, n, n0, a0), (c0, s0, cE, sE), Q) (some (.int kv)) h1) {q : Addr} {ce : Cell} (hcell : H[q]? = some ce) (hv : ce.vm = .none) (hcl : s.vm.findClass E = some ce.cls) :
    vx_W p l e R s m args below meth c H locs cells slots Q (F0 m pc ls rest) q := by
  obtain ⟨pre, suf, x, name, i, len, z, t1, t2, t3, t4, t5, t6, t7, t8, t9, t10, t11⟩ := hct
  obtain ⟨hx, hb, hown, ⟨hml, hnL⟩, hts, hK, -, -, -, -, -, -, -, htb⟩ := id C
  have hne : nm.2 ≠ [] := fun q => by rw [q] at t1; cases pre <;> cases t1
  refine vx_catch hown pre x suf ((htb hne).trans t1) (fun y hy => ?_) t3 t4 (hts _ t5) (va_Nw.use rfl (hK.2.1 _ t6)) hcell hv hcl ?_
  · rcases t2 y hy with h | ⟨h, nm', w1, w2⟩
    · exact Or.inl h
    · exact Or.inr ⟨h, nm', hts _ w1, hK.2.2.2.2 _ w2⟩
  · have go : ∀ (ls' : Array Slot), W p l e R s m args below meth c H locs cells slots Q (F0 m (x.handlerPc + len) ls' []) := fun ls' =>
      lv_iconst hx hb t9 t10 (hend a ls' H locs cells slots _ _ hq b1 b2 t11 (Or.inl ⟨rfl, _, rfl⟩))
    rcases t7 with ⟨n4, d1, d2, rfl⟩ | ⟨d1, rfl⟩
    · exact lv_astore_n hx hb d1 d2 hl (by omega) rfl (fun ls' _ => go ls')
    · exact lv_astore hx hb d1 hl (by omega) rfl (fun ls' _ => go ls')
theorem jLe.of_con {M : JM5} {d : Nat} {as : List Value} {h h1 : JH} {r : Option Value} (k : Con M d as h r h1) : jLe h h1 := k.1
theorem k_inv {μ k ci idx N : Nat} {ct : List (String × Int32)} {M : JM5} {T : u_T} (hM : tab μ = M) (hh : M.2.2.2.2 = none) (hd : decode cc pc = .ok (.invokevirtual idx, 3)) (hc : vwCl[ci]? = some (M.1.cls, T, N)) (h99 : ci < 99)
    (hpl : M.1.cls ≠ "java/lang/invoke/MethodHandle" ∧ M.1.cls ≠ "java/lang/invoke/VarHandle" ∧ (parseMethodDescriptor M.1.desc).map (fun d => d.parameters.length) = some k) (hL : M.2.2.1 ≤ 17)
    (w0 : Cond.code M.1 M.2.1 M.2.2.1 M.2.2.2.1 ∈ GW) (w1 : Cond.methodLink own idx M.1 ∈ GW) (w2 : Cond.instanceMethod M.1 ∈ GW) (w3 : Cond.selects M.1.cls M.1 M.1 ∈ GW) (w4 : Cond.initialized M.1.cls ∈ GW)
    (hct : ∀ z ∈ ct, JCt cc own nm nL pc z.1 z.2) : JOk tab cc own nm nL scr pc (a_inv μ k ci ct) := k_call0 (fun f h y e => by
  unfold a_inv at e
  split at e
  · split at e
    · split at e <;> cases e
    · cases e
  · cases e) (fun f h y e => by
  unfold a_inv at e
  split at e
  · split at e
    · split at e <;> cases e
    · cases e
  · cases e) (by
  intro l st h μ' as f' ct' e dd X hdd C d hde
  unfold a_inv at e
  split at e
  · rename_i q r hdr
    split at e
    · rename_i cx fs hMq
      split at e
      · rename_i hcc
        obtain ⟨rfl, hr⟩ := hcc
        cases e
        have hdr' : st.drop k = .ref q :: r := hdr
        obtain ⟨hst, hlen⟩ := drop_cons hdr'
        obtain ⟨⟨p, ln, e, R, s⟩, ⟨m, args, below, meth, c⟩, ⟨D, g⟩, ⟨A, n, n0, a0⟩, ⟨c0, s0, cE, sE⟩, Q⟩ := X
        have hw : jws M = Cond.code M.1 M.2.1 M.2.2.1 M.2.2.2.1 :: GW := by
          unfold jws jword
          rw [hh]
        have hG : GoodIn GW (wsV own idx M.1.cls M.1 (jws M)) := gw_goodIn (fun w hw2 => by
          unfold wsV at hw2
          rw [hw] at hw2
          simp only [List.cons_append, List.nil_append, List.mem_cons] at hw2
          rcases hw2 with rfl | rfl | rfl | rfl | rfl | hw2
          · exact w1
          · exact w2
          · exact w3
          · exact w4
          · exact w0
          · exact hw2)
        obtain ⟨hx, hb, hown, ⟨hml, hnL⟩, hts, hK, hZ, ⟨r1, r2, r3, r4⟩, -, -, hfl, -, -, -⟩ := id C
        have hstk : ∀ a : Nat → Nat, st.map (tv a) = (((st.take k).reverse).map (tv a)).reverse ++ .ref (a q) :: r.map (tv a) := fun a => by
          rw [List.map_reverse, List.reverse_reverse, ← show tv a (.ref q) = .ref (a q) from rfl, ← List.map_cons, ← List.map_append, ← hst]
        subst hM
        refine ⟨fun rv h1 hcon hfr b1 b2 kk a ls H locs cells slots hl hq g1 g2 => ?_, fun E kv h1 hcon hin b1 b2 hend a ls H locs cells slots hl hq g1 g2 => ?_⟩
        · have b1' : h1.2.1 ≤ cE := b1
          have b2' : h1.2.2.1 ≤ sE := b2
          have hle := hcon.1
          obtain ⟨z1, z2, z3⟩ := id hle
          obtain ⟨hR, -, -, -, -, -, q1, q2⟩ := id hq
          obtain ⟨x1, x2⟩ := hR.okr hMq h99
          have hat := hR.1 q x1 x2
          rw [hMq] at hat
          show W p ln e R s m args below meth c H locs cells slots Q (F0 m pc ls (st.map (tv a)))
          rw [hstk a]
          refine j_after (h1 := h1) (st' := r) (r := rv) C hl hq ?_ hle hfr b1 b2 kk
          exact va_runV (As := ((st.take k).reverse).map (tv a)) (rest := r.map (tv a)) ⟨hx, hb, hml, hown, hts⟩ (hcon.2 ln D g a H.size hfl) (cwV k hts hG hw rfl rfl ⟨rfl, hpl⟩ ⟨by show d + 1 ≤ _; omega, by show 8 + (_ + 11) + 36 * d ≤ _; omega⟩)
            ⟨jPre.blind D g a h H.size _, va_recv hK.1 (va_P1 hat) hc (q0 := 0) rfl, fun U hU hW => ⟨rfl, hq.pre C hU hW⟩⟩ rfl (by rw [List.length_map, List.length_reverse, hlen]) hl.1 rfl (lv_room (by rw [tv_catsum]; exact hr)) hd ⟨by show cells + _ ≤ _; omega, by show slots + _ ≤ _; omega⟩
        · have b1' : h1.2.1 ≤ cE := b1
          have b2' : h1.2.2.1 ≤ sE := b2
          obtain ⟨⟨hle, heq⟩, hcx⟩ := hcon
          obtain ⟨z1, z2, z3⟩ := id hle
          obtain ⟨hR, ⟨v1, v2, v3⟩, j3, j4, j5, j6, q1, q2⟩ := id hq
          obtain ⟨x1, x2⟩ := hR.okr hMq h99
          have hat := hR.1 q x1 x2
          rw [hMq] at hat
          show W p ln e R s m args below meth c H locs cells slots Q (F0 m pc ls (st.map (tv a)))
          rw [hstk a]
          intro T' hT' X'
          have hrun := vx_runV (As := ((st.take k).reverse).map (tv a)) (rest := r.map (tv a)) (g := F0 m pc ls ((((st.take k).reverse).map (tv a)).reverse ++ .ref (a q) :: r.map (tv a))) ⟨hx, hb, hml, hown, hts⟩ (hcx ln D g a H.size hfl) (cwV k hts hG hw rfl rfl ⟨rfl, hpl⟩ ⟨by show d + 1 ≤ _; omega, by show 8 + (_ + 11) + 36 * d ≤ _; omega⟩)
            ⟨jPre.blind D g a h H.size _, va_recv hK.1 (va_P1 hat) hc (q0 := 0) rfl, fun U hU hW => ⟨rfl, hq.pre C hU hW⟩⟩ rfl (by rw [List.length_map, List.length_reverse, hlen]) hl.1 rfl (lv_room (by rw [tv_catsum]; exact hr)) hd ⟨by show cells + _ ≤ _; omega, by show slots + _ ≤ _; omega⟩ T' hT' X'
          rcases hrun with ⟨v, st₀, t, T2, L, h0, X2, hL, e1, e2, hf, st2⟩ | ⟨qx, st₀, t, T2, L, E', ce, h0, X2, hL, e1, e2, ⟨rfl, hR1, hz, hk⟩, hce, hcv, hcl, st2⟩
          · exact hf.elim
          · rw [h0] at hz hk
            have hsub := hq.sub C
            have hqn : jQ ((p, ln, e, R, s), (m, args, below, meth, c), (D, g), (A, n, n0, a0), (c0, s0, cE, sE), Q) a h1 T2.heap (locs ++ L) (cells + (h1.2.1 - h.2.1)) (slots + (h1.2.2.1 - h.2.2.1)) := by
              refine ⟨by rw [e1]; exact hR1, ⟨Nat.le_trans v1 (by rw [e1]; exact hz), fun q g1 g2 => ?_, fun q hq => ?_⟩, j3, fun h9 => j4 (by rw [← heq]; exact h9), fun q g1 g2 => j5 q g1 (by rw [← heq]; exact g2), by rw [heq]; exact j6, ?_, ?_⟩
              · rw [e1, hk q (Nat.lt_of_lt_of_le g1 v1) (fun z => g2 (hsub q (by rw [← heq]; exact z)))]
                exact v2 q g1 g2
              · rcases List.mem_append.mp hq with h | h
                · exact v3 q h
                · exact hsub _ (hL q h)
              · omega
              · omega
            obtain ⟨t2, a1, b3⟩ := j_handler (rest := r.map (tv a)) C (hct _ hin) hl hqn b1 b2 hend (by rw [e1]; exact hce) hcv hcl T2 rfl X2
            exact ⟨t2, st2.trans a1, b3⟩
      · cases e
    · cases e
  · cases e)
end JCO
