section JTH
/-- the superiors of the exceptions that the program throws -/
def thN : List String := ["java/lang/RuntimeException", "java/lang/Exception"]
theorem nw_tab : ∀ w ∈ NW, w.onTables = true := fun w hw => by
  rcases nw_form w hw with ⟨a, i, x, k, rfl⟩ | ⟨a, b, rfl⟩ | ⟨x, rfl⟩ <;> rfl
theorem th_ot : ∀ w, (w ∈ GW ∨ w ∈ NW) → vx_ot w = true := fun w hw => by
  unfold vx_ot
  rcases hw with h | h
  · rw [gw_good w h, Bool.or_true]
  · rw [nw_tab w h, Bool.true_or]
theorem th_at {D : va_G} {g : Nat → ClassId} {args : Array Value} {s : State} (hts : ∀ w ∈ GW, w.before args s = true) (hK : jK D g s) : ∀ w, (w ∈ GW ∨ w ∈ NW) → w.before args s = true := fun w hw => by
  rcases hw with h | h
  · exact hts w h
  · exact va_Nw.use (nw_tab w h) (hK.2.1 w h)
variable {tab : Nat → JM5} {cc : ByteArray} {own : String} {nm : String × List (Nat × Nat × Nat × Nat)} {nL : Nat} {scr : Option (Nat × (Nat → Int32))} {pc : Nat}
def a_thr (E : String) : JA := fun f _ => if jcat f.2.2 ≤ 8 then some (.inr (.inr (.inr E))) else none
theorem k_thr {E text : String} {ik is ic : Nat} (hfit : Bundle.fit E = true) (w1 : Cond.classLink own ik E ∈ GW) (w2 : Cond.initialized E ∈ GW) (w3 : (own, is, text) ∈ STR) (w4 : ∀ w ∈ vx_atS own ic E thN, w ∈ GW ∨ w ∈ NW)
    (d0 : decode cc pc = .ok (.new ik, 3)) (d3 : decode cc (pc + 3) = .ok (.dup, 1)) (d4 : decode cc (pc + 4) = .ok (.ldc is, 2)) (d6 : decode cc (pc + 6) = .ok (.invokespecial ic, 3)) (d9 : decode cc (pc + 9) = .ok (.athrow, 1)) : JOk tab cc own nm nL scr pc (a_thr E) := by
  refine ⟨fun l st h f' h' e => ?_, fun dd X hdd C l st h => ?_⟩
  · unfold a_thr at e
    split at e <;> cases e
  · show jDo tab cc dd X (pc, l, st) h (if jcat st ≤ 8 then some (.inr (.inr (.inr E))) else none)
    split
    · rename_i hr
      obtain ⟨⟨p, ln, e, R, s⟩, ⟨m, args, below, meth, c⟩, ⟨D, g⟩, ⟨A, n, n0, a0⟩, ⟨c0, s0, cE, sE⟩, Q⟩ := X
      intro h6 hend a ls H locs cells slots hl hq g1 g2
      obtain ⟨hx, hb, hown, ⟨hml, hnL⟩, hts, hK, ⟨hZ1, hZ2⟩, ⟨r1, r2, r3, r4⟩, -, -, hfl, hlk, -, -⟩ := id C
      obtain ⟨Qc, XC, mc, ms, free, rfl, hno, hxc, hfree, hmc, hms, hmR, hsR⟩ := hend a H locs cells slots hq
      obtain ⟨sa, hstr⟩ := hK.2.2.2.1 _ w3
      have hr' : ((st.map (tv a)).map fun v => v.category).sum ≤ 8 := by rw [tv_catsum]; exact hr
      refine vx_throwS (sa := sa) (names := thN) hx hb hfl hown hfit (by decide +kernel) (hts _ w1) (hts _ w2) hstr (fun w hw => th_at hts hK w (w4 w hw)) (fun w hw => ?_) hZ1 hZ2 hq.2.1 (hl.1.trans hml.symm) d0 d3 d4 d6 d9 (fun x hx => (hno x hx).elim) (by show 2 + 3 < _; omega) (by show ((st.map (tv a)).map fun v => v.category).sum + (13 * (2 + 1) + 43) ≤ _; omega) (by omega) (by omega) hlk hxc hfree hmc hms
      rcases List.mem_cons.mp hw with rfl | hw
      · exact th_ot _ (Or.inl w1)
      · rcases List.mem_cons.mp hw with rfl | hw
        · exact th_ot _ (Or.inl w2)
        · exact th_ot _ (w4 w hw)
    · trivial
theorem k_thrW {E text : String} {ik is ic : Nat} (hfit : Bundle.fit E = true) (w1 : Cond.classLink own ik E ∈ GW) (w2 : Cond.initialized E ∈ GW) (w3 : (own, is, text) ∈ STR) (w4 : ∀ w ∈ vx_atS own ic E thN, w ∈ GW ∨ w ∈ NW)
    (d0 : decode cc pc = .ok (.new ik, 3)) (d3 : decode cc (pc + 3) = .ok (.dup, 1)) (d4 : decode cc (pc + 4) = .ok (.ldc_w is, 3)) (d7 : decode cc (pc + 7) = .ok (.invokespecial ic, 3)) (d10 : decode cc (pc + 10) = .ok (.athrow, 1)) : JOk tab cc own nm nL scr pc (a_thr E) := by
  refine ⟨fun l st h f' h' e => ?_, fun dd X hdd C l st h => ?_⟩
  · unfold a_thr at e
    split at e <;> cases e
  · show jDo tab cc dd X (pc, l, st) h (if jcat st ≤ 8 then some (.inr (.inr (.inr E))) else none)
    split
    · rename_i hr
      obtain ⟨⟨p, ln, e, R, s⟩, ⟨m, args, below, meth, c⟩, ⟨D, g⟩, ⟨A, n, n0, a0⟩, ⟨c0, s0, cE, sE⟩, Q⟩ := X
      intro h6 hend a ls H locs cells slots hl hq g1 g2
      obtain ⟨hx, hb, hown, ⟨hml, hnL⟩, hts, hK, ⟨hZ1, hZ2⟩, ⟨r1, r2, r3, r4⟩, -, -, hfl, hlk, -, -⟩ := id C
      obtain ⟨Qc, XC, mc, ms, free, rfl, hno, hxc, hfree, hmc, hms, hmR, hsR⟩ := hend a H locs cells slots hq
      obtain ⟨sa, hstr⟩ := hK.2.2.2.1 _ w3
      have hr' : ((st.map (tv a)).map fun v => v.category).sum ≤ 8 := by rw [tv_catsum]; exact hr
      refine vx_throwSW (sa := sa) (names := thN) hx hb hfl hown hfit (by decide +kernel) (hts _ w1) (hts _ w2) hstr (fun w hw => th_at hts hK w (w4 w hw)) (fun w hw => ?_) hZ1 hZ2 hq.2.1 (hl.1.trans hml.symm) d0 d3 d4 d7 d10 (fun x hx => (hno x hx).elim) (by show 2 + 3 < _; omega) (by show ((st.map (tv a)).map fun v => v.category).sum + (13 * (2 + 1) + 43) ≤ _; omega) (by omega) (by omega) hlk hxc hfree hmc hms
      rcases List.mem_cons.mp hw with rfl | hw
      · exact th_ot _ (Or.inl w1)
      · rcases List.mem_cons.mp hw with rfl | hw
        · exact th_ot _ (Or.inl w2)
        · exact th_ot _ (w4 w hw)
    · trivial
end JTH
theorem th_split {own X : String} {ic : Nat} (h : ∀ w ∈ Bundle.ownAtoms own ic X thN, vx_no w = true → w ∈ GW ∨ w ∈ NW) : ∀ w ∈ vx_atS own ic X thN, w ∈ GW ∨ w ∈ NW := fun w hw => h w (List.mem_filter.mp hw).1 (List.mem_filter.mp hw).2
theorem th_w42 : ∀ w ∈ vx_atS RX6 42 "java/lang/IllegalArgumentException" thN, w ∈ GW ∨ w ∈ NW := th_split (by
  unfold Bundle.ownAtoms Bundle.throwableAtoms Bundle.throwableSAtoms thN
  simp only [Bundle.chainSAtoms, Bundle.passSAtoms, List.cons_append, List.nil_append, List.append_assoc, List.forall_mem_cons]
  repeat' apply And.intro
  all_goals first
    | exact fun _ => Or.inl (gw_of (by decide +kernel) rfl)
    | exact fun _ => Or.inr (by decide +kernel)
    | exact fun h => absurd h (by decide +kernel)
    | exact fun _ h => absurd h List.not_mem_nil)
theorem th_w63 : ∀ w ∈ vx_atS RX6 63 "java/lang/IndexOutOfBoundsException" thN, w ∈ GW ∨ w ∈ NW := th_split (by
  unfold Bundle.ownAtoms Bundle.throwableAtoms Bundle.throwableSAtoms thN
  simp only [Bundle.chainSAtoms, Bundle.passSAtoms, List.cons_append, List.nil_append, List.append_assoc, List.forall_mem_cons]
  repeat' apply And.intro
  all_goals first
    | exact fun _ => Or.inl (gw_of (by decide +kernel) rfl)
    | exact fun _ => Or.inr (by decide +kernel)
    | exact fun h => absurd h (by decide +kernel)
    | exact fun _ h => absurd h List.not_mem_nil)
theorem th_w117 : ∀ w ∈ vx_atS RX6 117 "java/lang/IllegalStateException" thN, w ∈ GW ∨ w ∈ NW := th_split (by
  unfold Bundle.ownAtoms Bundle.throwableAtoms Bundle.throwableSAtoms thN
  simp only [Bundle.chainSAtoms, Bundle.passSAtoms, List.cons_append, List.nil_append, List.append_assoc, List.forall_mem_cons]
  repeat' apply And.intro
  all_goals first
    | exact fun _ => Or.inl (gw_of (by decide +kernel) rfl)
    | exact fun _ => Or.inr (by decide +kernel)
    | exact fun h => absurd h (by decide +kernel)
    | exact fun _ h => absurd h List.not_mem_nil)
