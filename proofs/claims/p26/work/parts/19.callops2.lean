section JCS
variable {tab : Nat → JM5} {cc : ByteArray} {own : String} {nm : String × List (Nat × Nat × Nat × Nat)} {nL : Nat} {scr : Option (Nat × (Nat → Int32))} {pc : Nat}
theorem k_ins {μ k idx : Nat} {M : JM5} (hM : tab μ = M) (hh : M.2.2.2.2 = none) (hd : decode cc pc = .ok (.invokestatic idx, 3))
    (hpl : M.1.cls ≠ "java/lang/invoke/MethodHandle" ∧ M.1.cls ≠ "java/lang/invoke/VarHandle" ∧ (parseMethodDescriptor M.1.desc).map (fun d => d.parameters.length) = some k) (hL : M.2.2.1 ≤ 17)
    (w0 : Cond.code M.1 M.2.1 M.2.2.1 M.2.2.2.1 ∈ GW) (w1 : Cond.methodLink own idx M.1 ∈ GW) (w2 : Cond.static M.1 ∈ GW) (w3 : Cond.initialized M.1.cls ∈ GW) : JOk tab cc own nm nL scr pc (a_ins μ k) := k_call0 (fun f h y e => by
  unfold a_ins at e
  split at e <;> cases e) (fun f h y e => by
  unfold a_ins at e
  split at e <;> cases e) (by
  intro l st h μ' as f' ct' e dd X hdd C d hde
  unfold a_ins at e
  split at e
  · rename_i hcc
    obtain ⟨hlen, hr⟩ := hcc
    cases e
    have hlen' : k ≤ st.length := hlen
    have hr' : jcat (st.drop k) ≤ 8 := hr
    obtain ⟨⟨p, ln, e, R, s⟩, ⟨m, args, below, meth, c⟩, ⟨D, g⟩, ⟨A, n, n0, a0⟩, ⟨c0, s0, cE, sE⟩, Q⟩ := X
    have hw : jws M = Cond.code M.1 M.2.1 M.2.2.1 M.2.2.2.1 :: GW := by
      unfold jws jword
      rw [hh]
    obtain ⟨hx, hb, hown, ⟨hml, hnL⟩, hts, hK, hZ, ⟨r1, r2, r3, r4⟩, -, -, hfl, -, -, -⟩ := id C
    have hstk : ∀ a : Nat → Nat, st.map (tv a) = (((st.take k).reverse).map (tv a)).reverse ++ (st.drop k).map (tv a) := fun a => by
      rw [List.map_reverse, List.reverse_reverse, ← List.map_append, List.take_append_drop]
    subst hM
    refine ⟨fun rv h1 hcon hfr b1 b2 kk a ls H locs cells slots hl hq g1 g2 => ?_, fun E kv h1 hcon hin => absurd hin List.not_mem_nil⟩
    have b1' : h1.2.1 ≤ cE := b1
    have b2' : h1.2.2.1 ≤ sE := b2
    have hle := hcon.1
    obtain ⟨z1, z2, z3⟩ := id hle
    obtain ⟨hR, -, -, -, -, -, q1, q2⟩ := id hq
    show W p ln e R s m args below meth c H locs cells slots Q (F0 m pc ls (st.map (tv a)))
    rw [hstk a]
    refine j_after (h1 := h1) (st' := st.drop k) (r := rv) C hl hq ?_ hle hfr b1 b2 kk
    exact va_runS (As := ((st.take k).reverse).map (tv a)) (rest := (st.drop k).map (tv a)) ⟨hx, hb, hml, hown, hts⟩ (hcon.2 ln D g a H.size hfl) (va_cwS k hts (gw_goodIn (fun w hw2 => by
          unfold va_wsS at hw2
          rw [hw] at hw2
          simp only [List.cons_append, List.nil_append, List.mem_cons] at hw2
          rcases hw2 with rfl | rfl | rfl | rfl | hw2
          · exact w1
          · exact w2
          · exact w3
          · exact w0
          · exact hw2)) hw rfl rfl hpl ⟨by show d + 1 ≤ _; omega, by show 8 + (_ + 11) + 36 * d ≤ _; omega⟩)
      ⟨jPre.blind D g a h H.size _, fun U hU hW => ⟨rfl, hq.pre C hU hW⟩⟩ rfl (by rw [List.length_map, List.length_reverse, List.length_take]; omega) hl.1 rfl (lv_room (by rw [tv_catsum]; exact hr')) hd ⟨by show cells + _ ≤ _; omega, by show slots + _ ≤ _; omega⟩
  · cases e)
theorem k_insW {μ k idx : Nat} {M : JM5} {hh0 : List (Nat × Nat × Nat × Nat)} (hM : tab μ = M) (hh : M.2.2.2.2 = some hh0) (hd : decode cc pc = .ok (.invokestatic idx, 3))
    (hpl : M.1.cls ≠ "java/lang/invoke/MethodHandle" ∧ M.1.cls ≠ "java/lang/invoke/VarHandle" ∧ (parseMethodDescriptor M.1.desc).map (fun d => d.parameters.length) = some k) (hL : M.2.2.1 ≤ 17)
    (w0 : Cond.codeWith M.1 M.2.1 M.2.2.1 M.2.2.2.1 hh0 ∈ GW) (w1 : Cond.methodLink own idx M.1 ∈ GW) (w2 : Cond.static M.1 ∈ GW) (w3 : Cond.initialized M.1.cls ∈ GW) : JOk tab cc own nm nL scr pc (a_ins μ k) := k_call0 (fun f h y e => by
  unfold a_ins at e
  split at e <;> cases e) (fun f h y e => by
  unfold a_ins at e
  split at e <;> cases e) (by
  intro l st h μ' as f' ct' e dd X hdd C d hde
  unfold a_ins at e
  split at e
  · rename_i hcc
    obtain ⟨hlen, hr⟩ := hcc
    cases e
    have hlen' : k ≤ st.length := hlen
    have hr' : jcat (st.drop k) ≤ 8 := hr
    obtain ⟨⟨p, ln, e, R, s⟩, ⟨m, args, below, meth, c⟩, ⟨D, g⟩, ⟨A, n, n0, a0⟩, ⟨c0, s0, cE, sE⟩, Q⟩ := X
    have hw : jws M = Cond.codeWith M.1 M.2.1 M.2.2.1 M.2.2.2.1 hh0 :: GW := by
      unfold jws jword
      rw [hh]
    obtain ⟨hx, hb, hown, ⟨hml, hnL⟩, hts, hK, hZ, ⟨r1, r2, r3, r4⟩, -, -, hfl, -, -, -⟩ := id C
    have hstk : ∀ a : Nat → Nat, st.map (tv a) = (((st.take k).reverse).map (tv a)).reverse ++ (st.drop k).map (tv a) := fun a => by
      rw [List.map_reverse, List.reverse_reverse, ← List.map_append, List.take_append_drop]
    subst hM
    refine ⟨fun rv h1 hcon hfr b1 b2 kk a ls H locs cells slots hl hq g1 g2 => ?_, fun E kv h1 hcon hin => absurd hin List.not_mem_nil⟩
    have b1' : h1.2.1 ≤ cE := b1
    have b2' : h1.2.2.1 ≤ sE := b2
    have hle := hcon.1
    obtain ⟨z1, z2, z3⟩ := id hle
    obtain ⟨hR, -, -, -, -, -, q1, q2⟩ := id hq
    show W p ln e R s m args below meth c H locs cells slots Q (F0 m pc ls (st.map (tv a)))
    rw [hstk a]
    refine j_after (h1 := h1) (st' := st.drop k) (r := rv) C hl hq ?_ hle hfr b1 b2 kk
    exact vx_runSW (As := ((st.take k).reverse).map (tv a)) (rest := (st.drop k).map (tv a)) ⟨hx, hb, hml, hown, hts⟩ (hcon.2 ln D g a H.size hfl) (vx_cwSW k hts (gw_goodIn (fun w hw2 => by
          unfold va_wsS at hw2
          rw [hw] at hw2
          simp only [List.cons_append, List.nil_append, List.mem_cons] at hw2
          rcases hw2 with rfl | rfl | rfl | rfl | hw2
          · exact w1
          · exact w2
          · exact w3
          · exact w0
          · exact hw2)) hw rfl rfl hpl ⟨by show d + 1 ≤ _; omega, by show 8 + (_ + 11) + 36 * d ≤ _; omega⟩)
      ⟨jPre.blind D g a h H.size _, fun U hU hW => ⟨rfl, hq.pre C hU hW⟩⟩ rfl (by rw [List.length_map, List.length_reverse, List.length_take]; omega) hl.1 rfl (lv_room (by rw [tv_catsum]; exact hr')) hd ⟨by show cells + _ ≤ _; omega, by show slots + _ ≤ _; omega⟩
  · cases e)
theorem k_insN {μ k idx : Nat} {M : JM5} {host : String} (hM : tab μ = M) (hh : M.2.2.2.2 = none) (hd : decode cc pc = .ok (.invokestatic idx, 3))
    (hpl : M.1.cls ≠ "java/lang/invoke/MethodHandle" ∧ M.1.cls ≠ "java/lang/invoke/VarHandle" ∧ (parseMethodDescriptor M.1.desc).map (fun d => d.parameters.length) = some k) (hL : M.2.2.1 ≤ 17)
    (w0 : Cond.code M.1 M.2.1 M.2.2.1 M.2.2.2.1 ∈ GW) (w1 : Cond.methodLinkNest own idx M.1 host ∈ NW) (w2 : Cond.static M.1 ∈ GW) (w3 : Cond.initialized M.1.cls ∈ GW) : JOk tab cc own nm nL scr pc (a_ins μ k) := k_call0 (fun f h y e => by
  unfold a_ins at e
  split at e <;> cases e) (fun f h y e => by
  unfold a_ins at e
  split at e <;> cases e) (by
  intro l st h μ' as f' ct' e dd X hdd C d hde
  unfold a_ins at e
  split at e
  · rename_i hcc
    obtain ⟨hlen, hr⟩ := hcc
    cases e
    have hlen' : k ≤ st.length := hlen
    have hr' : jcat (st.drop k) ≤ 8 := hr
    obtain ⟨⟨p, ln, e, R, s⟩, ⟨m, args, below, meth, c⟩, ⟨D, g⟩, ⟨A, n, n0, a0⟩, ⟨c0, s0, cE, sE⟩, Q⟩ := X
    have hw : jws M = Cond.code M.1 M.2.1 M.2.2.1 M.2.2.2.1 :: GW := by
      unfold jws jword
      rw [hh]
    obtain ⟨hx, hb, hown, ⟨hml, hnL⟩, hts, hK, hZ, ⟨r1, r2, r3, r4⟩, -, -, hfl, -, -, -⟩ := id C
    have hstk : ∀ a : Nat → Nat, st.map (tv a) = (((st.take k).reverse).map (tv a)).reverse ++ (st.drop k).map (tv a) := fun a => by
      rw [List.map_reverse, List.reverse_reverse, ← List.map_append, List.take_append_drop]
    subst hM
    refine ⟨fun rv h1 hcon hfr b1 b2 kk a ls H locs cells slots hl hq g1 g2 => ?_, fun E kv h1 hcon hin => absurd hin List.not_mem_nil⟩
    have b1' : h1.2.1 ≤ cE := b1
    have b2' : h1.2.2.1 ≤ sE := b2
    have hle := hcon.1
    obtain ⟨z1, z2, z3⟩ := id hle
    obtain ⟨hR, -, -, -, -, -, q1, q2⟩ := id hq
    show W p ln e R s m args below meth c H locs cells slots Q (F0 m pc ls (st.map (tv a)))
    rw [hstk a]
    refine j_after (h1 := h1) (st' := st.drop k) (r := rv) C hl hq ?_ hle hfr b1 b2 kk
    exact va_runSN (host := host) (As := ((st.take k).reverse).map (tv a)) (rest := (st.drop k).map (tv a)) ⟨hx, hb, hml, hown, hts⟩ (hcon.2 ln D g a H.size hfl) ⟨va_cnB k hts (gw_goodIn (fun w hw2 => by rw [hw] at hw2; exact (List.mem_cons.mp hw2).elim (fun e => e ▸ w0) id)) hw rfl rfl (hK.2.1 _ w1) (hts _ w3) hpl ⟨by show d + 1 ≤ _; omega, by show 8 + (_ + 11) + 36 * d ≤ _; omega⟩, hts _ w2, trivial⟩
      ⟨jPre.blind D g a h H.size _, fun U hU hW => ⟨rfl, hq.pre C hU hW⟩⟩ rfl (by rw [List.length_map, List.length_reverse, List.length_take]; omega) hl.1 rfl (lv_room (by rw [tv_catsum]; exact hr')) hd ⟨by show cells + _ ≤ _; omega, by show slots + _ ≤ _; omega⟩
  · cases e)
theorem k_ini {μ k idx : Nat} {M : JM5} (hM : tab μ = M) (hh : M.2.2.2.2 = none) (hret : M.2.2.2.1 = none) (hin0 : M.1.name = "<init>") (hd : decode cc pc = .ok (.invokespecial idx, 3))
    (hpl : M.1.cls ≠ "java/lang/invoke/MethodHandle" ∧ M.1.cls ≠ "java/lang/invoke/VarHandle" ∧ (parseMethodDescriptor M.1.desc).map (fun d => d.parameters.length) = some k) (hL : M.2.2.1 ≤ 17)
    (w0 : Cond.code M.1 M.2.1 M.2.2.1 M.2.2.2.1 ∈ GW) (w1 : Cond.methodLink own idx M.1 ∈ GW) (w2 : Cond.instanceMethod M.1 ∈ GW) (w3 : Cond.initialized M.1.cls ∈ GW) : JOk tab cc own nm nL scr pc (a_ini μ k) := k_call0 (fun f h y e => by
  unfold a_ini at e
  split at e
  · split at e <;> cases e
  · cases e) (fun f h y e => by
  unfold a_ini at e
  split at e
  · split at e <;> cases e
  · cases e) (by
  intro l st h μ' as f' ct' e dd X hdd C d hde
  unfold a_ini at e
  split at e
  · rename_i q r hdr
    split at e
    · rename_i hr
      cases e
      have hdr' : st.drop k = .ref q :: r := hdr
      obtain ⟨hst, hlen⟩ := drop_cons hdr'
      obtain ⟨⟨p, ln, e, R, s⟩, ⟨m, args, below, meth, c⟩, ⟨D, g⟩, ⟨A, n, n0, a0⟩, ⟨c0, s0, cE, sE⟩, Q⟩ := X
      have hw : jws M = Cond.code M.1 M.2.1 M.2.2.1 none :: GW := by
        unfold jws jword
        rw [hh, hret]
      have w0' : Cond.code M.1 M.2.1 M.2.2.1 none ∈ GW := hret ▸ w0
      obtain ⟨hx, hb, hown, ⟨hml, hnL⟩, hts, hK, hZ, ⟨r1, r2, r3, r4⟩, -, -, hfl, -, -, -⟩ := id C
      have hstk : ∀ a : Nat → Nat, st.map (tv a) = (((st.take k).reverse).map (tv a)).reverse ++ .ref (a q) :: r.map (tv a) := fun a => by
        rw [List.map_reverse, List.reverse_reverse, ← show tv a (.ref q) = .ref (a q) from rfl, ← List.map_cons, ← List.map_append, ← hst]
      subst hM
      refine ⟨fun rv h1 hcon hfr b1 b2 kk a ls H locs cells slots hl hq g1 g2 => ?_, fun E kv h1 hcon hin => absurd hin List.not_mem_nil⟩
      have b1' : h1.2.1 ≤ cE := b1
      have b2' : h1.2.2.1 ≤ sE := b2
      have hle := hcon.1
      obtain ⟨z1, z2, z3⟩ := id hle
      obtain ⟨hR, -, -, -, -, -, q1, q2⟩ := id hq
      show W p ln e R s m args below meth c H locs cells slots Q (F0 m pc ls (st.map (tv a)))
      rw [hstk a]
      refine j_after (h1 := h1) (st' := r) (r := rv) C hl hq ?_ hle hfr b1 b2 kk
      exact va_runI (As := ((st.take k).reverse).map (tv a)) (rest := r.map (tv a)) ⟨hx, hb, hml, hown, hts⟩ (hcon.2 ln D g a H.size hfl) (cwI k hts (gw_goodIn (fun w hw2 => by rw [hw] at hw2; exact (List.mem_cons.mp hw2).elim (fun e => e ▸ w0') id)) hw rfl rfl (hts _ w3) (hts _ w1) (hts _ w2) hin0 hpl ⟨by show d + 1 ≤ _; omega, by show 8 + (_ + 11) + 36 * d ≤ _; omega⟩)
        ⟨jPre.blind D g a h H.size _, fun U hU hW => ⟨rfl, hq.pre C hU hW⟩⟩ rfl (by rw [List.length_map, List.length_reverse, hlen]) hl.1 rfl (lv_room (by rw [tv_catsum]; exact hr)) hd ⟨by show cells + _ ≤ _; omega, by show slots + _ ≤ _; omega⟩
    · cases e
  · cases e)
theorem k_iniN {μ k idx : Nat} {M : JM5} {host : String} (hM : tab μ = M) (hh : M.2.2.2.2 = none) (hret : M.2.2.2.1 = none) (hin0 : M.1.name = "<init>") (hd : decode cc pc = .ok (.invokespecial idx, 3))
    (hpl : M.1.cls ≠ "java/lang/invoke/MethodHandle" ∧ M.1.cls ≠ "java/lang/invoke/VarHandle" ∧ (parseMethodDescriptor M.1.desc).map (fun d => d.parameters.length) = some k) (hL : M.2.2.1 ≤ 17)
    (w0 : Cond.code M.1 M.2.1 M.2.2.1 M.2.2.2.1 ∈ GW) (w1 : Cond.methodLinkNest own idx M.1 host ∈ NW) (w2 : Cond.instanceMethod M.1 ∈ GW) (w3 : Cond.initialized M.1.cls ∈ GW) : JOk tab cc own nm nL scr pc (a_ini μ k) := k_call0 (fun f h y e => by
  unfold a_ini at e
  split at e
  · split at e <;> cases e
  · cases e) (fun f h y e => by
  unfold a_ini at e
  split at e
  · split at e <;> cases e
  · cases e) (by
  intro l st h μ' as f' ct' e dd X hdd C d hde
  unfold a_ini at e
  split at e
  · rename_i q r hdr
    split at e
    · rename_i hr
      cases e
      have hdr' : st.drop k = .ref q :: r := hdr
      obtain ⟨hst, hlen⟩ := drop_cons hdr'
      obtain ⟨⟨p, ln, e, R, s⟩, ⟨m, args, below, meth, c⟩, ⟨D, g⟩, ⟨A, n, n0, a0⟩, ⟨c0, s0, cE, sE⟩, Q⟩ := X
      have hw : jws M = Cond.code M.1 M.2.1 M.2.2.1 none :: GW := by
        unfold jws jword
        rw [hh, hret]
      have w0' : Cond.code M.1 M.2.1 M.2.2.1 none ∈ GW := hret ▸ w0
      obtain ⟨hx, hb, hown, ⟨hml, hnL⟩, hts, hK, hZ, ⟨r1, r2, r3, r4⟩, -, -, hfl, -, -, -⟩ := id C
      have hstk : ∀ a : Nat → Nat, st.map (tv a) = (((st.take k).reverse).map (tv a)).reverse ++ .ref (a q) :: r.map (tv a) := fun a => by
        rw [List.map_reverse, List.reverse_reverse, ← show tv a (.ref q) = .ref (a q) from rfl, ← List.map_cons, ← List.map_append, ← hst]
      subst hM
      refine ⟨fun rv h1 hcon hfr b1 b2 kk a ls H locs cells slots hl hq g1 g2 => ?_, fun E kv h1 hcon hin => absurd hin List.not_mem_nil⟩
      have b1' : h1.2.1 ≤ cE := b1
      have b2' : h1.2.2.1 ≤ sE := b2
      have hle := hcon.1
      obtain ⟨z1, z2, z3⟩ := id hle
      obtain ⟨hR, -, -, -, -, -, q1, q2⟩ := id hq
      show W p ln e R s m args below meth c H locs cells slots Q (F0 m pc ls (st.map (tv a)))
      rw [hstk a]
      refine j_after (h1 := h1) (st' := r) (r := rv) C hl hq ?_ hle hfr b1 b2 kk
      exact va_runIN (host := host) (As := ((st.take k).reverse).map (tv a)) (rest := r.map (tv a)) ⟨hx, hb, hml, hown, hts⟩ (hcon.2 ln D g a H.size hfl) ⟨va_cnB k hts (gw_goodIn (fun w hw2 => by rw [hw] at hw2; exact (List.mem_cons.mp hw2).elim (fun e => e ▸ w0') id)) hw rfl rfl (hK.2.1 _ w1) (hts _ w3) hpl ⟨by show d + 1 ≤ _; omega, by show 8 + (_ + 11) + 36 * d ≤ _; omega⟩, hin0, hts _ w2⟩
        ⟨jPre.blind D g a h H.size _, fun U hU hW => ⟨rfl, hq.pre C hU hW⟩⟩ rfl (by rw [List.length_map, List.length_reverse, hlen]) hl.1 rfl (lv_room (by rw [tv_catsum]; exact hr)) hd ⟨by show cells + _ ≤ _; omega, by show slots + _ ≤ _; omega⟩
    · cases e
  · cases e)
end JCS
