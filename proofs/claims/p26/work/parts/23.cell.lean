/-! a shift, an int constant, and the law's reader of the script -/
section JP26
variable {tab : Nat → JM5} {cc : ByteArray} {own : String} {nm : String × List (Nat × Nat × Nat × Nat)} {nL : Nat} {scr : Option (Nat × (Nat → Int32))} {pc : Nat}
def s_ishr : List Value → Option (List Value) := fun st => match st with
  | .int y :: .int x :: r => some (.int (x >>> (y &&& 31)) :: r)
  | _ => none
theorem k_ishr (hd : decode cc pc = .ok (.ishr, 1)) : JOk tab cc own nm nL scr pc (a_stk 1 s_ishr) := k_stk (by
  intro p l e R s m args below meth c H locs cells slots Q ls a st st' hx hb hs k
  unfold s_ishr at hs
  split at hs
  · cases hs
    exact lv_ishr hx hb hd k
  · cases hs)
def a_ldci (v : Int32) : JA := fun f h => some (.inl ((f.1 + 2, f.2.1, .int v :: f.2.2), h))
theorem k_ldci {i : Nat} {v : Int32} (hd : decode cc pc = .ok (.ldc i, 2)) (hw : Cond.constant own i v ∈ GW) : JOk tab cc own nm nL scr pc (a_ldci v) := k_loc (fun f h y e => by unfold a_ldci at e; cases e) (by
  intro l st h f' h' e
  unfold a_ldci at e
  cases e
  refine ⟨rfl, fun dd p l0 e R s m args below meth c D g A n n0 a0 c0 s0 cE sE Q hdd C a ls H locs cells slots hl hq h1 h2 k => ?_⟩
  exact lv_ldc C.1 C.2.1 C.2.2.1 (C.2.2.2.2.1 _ hw) hd (k ls hl))
def mL_cell : JM5 := (yL_cell, cL_cell, 2, some .int, none)
/-- what the reader answers -/
def cellv (L : Nat) (xs : Nat → Int32) (i : Int32) : Int32 := if i < Int32.ofNat L then xs i.toNatClampNeg else 1116352408 * (i + 617)
def jXs (a : Nat → Nat) (h : JH) (sz L : Nat) (xs : Nat → Int32) (U : State) : Prop := va_X (a 0) L xs U U.heap ∧ a 0 < U.heap.size ∧ ¬ jA a h.1 sz (a 0)
theorem cell_met {L : Nat} {xs : Nat → Int32} (hL : L < 2 ^ 31) (l : Launch) (D : va_G) (g : Nat → ClassId) (a : Nat → Nat) (h : JH) (sz : Nat) (i : Int32) (hi : ¬ i < 0) (w1 : Cond.constant RL 7 1116352408 ∈ GW) :
    Met l yL_cell (jws mL_cell) { frames := 0, cells := h.2.1 - h.2.1, slots := h.2.2.1 - h.2.2.1, locals := 0 } (va_Pc [.ref (a 0), .int i] (fun U => jPre D g a h sz U ∧ jXs a h sz L xs U)) (fun _ st oc t => jPost D g a h h sz (some (.int (cellv L xs i))) st oc t) (h.2.1 - h.2.1) (h.2.2.1 - h.2.2.1) (jA a h.1 sz) := by
  refine Met.ofW (cc := cL_cell) (maxL := 2) (ret := some .int) (ws' := GW) (by decide +kernel) rfl ?_
  intro p e s m args below meth c s₁ B hml hv
  obtain ⟨rfl, hp, hX, hsz, hA⟩ := hv
  obtain ⟨rfl⟩ : s.heap.size = sz := hp.1
  have hall := atoms_spec (ws := jws mL_cell) B.pre
  have hts : ∀ w ∈ GW, w.before [Value.ref (a 0), Value.int i].toArray s = true := fun w hw => hall w (List.mem_cons_of_mem _ hw)
  have hx := B.exec
  have hb := B.bytes
  have hown := findClass_of_methodNamed B.named
  rw [lg_entry_eq]
  have hl0 := lv_entry ([.ref (a 0), .int i]) (n := 2) (Nat.le_of_ble_eq_true rfl)
  refine (fun key => key _ hl0) (fun ls hl => ?_ : ∀ ls : Array Slot, lv_has ls 2 (lv_args 0 [.ref (a 0), .int i]) → W p l e _ s m _ below meth c s.heap [] 0 0 _ (F0 m 0 ls []))
  have hend : ∀ (R : Room) (v : Int32), v = cellv L xs i → W p l e R s m [Value.ref (a 0), Value.int i].toArray below meth c s.heap [] 0 0 (MQ below (fun _ st oc t => jPost D g a h h s.heap.size (some (.int (cellv L xs i))) st oc t) [Value.ref (a 0), Value.int i].toArray s (h.2.1 - h.2.1) (h.2.2.1 - h.2.2.1) (jA a h.1 s.heap.size)) (F0 m 20 ls [.int v]) := fun R v hv => by
    subst hv
    exact j_end (M := mL_cell) (r := some (.int (cellv L xs i))) (nL := 2) (own := "") (nm := ("", [])) (dd := 0) B.exec B.bytes B.returns B.notSynchronized trivial jLe.rf rfl rfl a ls s.heap [] 0 0 20 .ireturn ⟨hp.2.2.1, va_S.rf, fun _ _ => rfl, fun _ => rfl, fun q h0 h1 => absurd h1 (Nat.not_lt.mpr h0), Nat.le_refl _, rfl, rfl⟩ (Nat.le_refl _) (Nat.le_refl _) (show decode cL_cell 20 = .ok (.ireturn, 1) by decide +kernel) (Or.inl ⟨rfl, _, rfl⟩)
  refine lv_iload_n hx hb (show decode cL_cell 0 = .ok (.iload_n 1, 1) by decide +kernel) rfl (lv_at hl 1 rfl) ?_
  refine lv_aload_n hx hb (show decode cL_cell 1 = .ok (.aload_n 0, 1) by decide +kernel) rfl (lv_at hl 0 rfl) ?_
  refine va_slen hx hb hX hsz hA va_S.rf (show decode cL_cell 2 = .ok (.arraylength, 1) by decide +kernel) ?_
  refine lv_icmp_ge hx hb (show decode cL_cell 3 = .ok (.if_icmp .ge 9, 3) by decide +kernel) (tgt := 12) (by decide) (fun hc => ?_) (fun hc => ?_)
  · refine lv_ldc hx hb hown (hts _ w1) (show decode cL_cell 12 = .ok (.ldc 7, 2) by decide +kernel) ?_
    refine lv_iload_n hx hb (show decode cL_cell 14 = .ok (.iload_n 1, 1) by decide +kernel) rfl (lv_at hl 1 rfl) ?_
    refine lv_sipush hx hb (show decode cL_cell 15 = .ok (.sipush 617, 3) by decide +kernel) (v := 617) (by decide +kernel) ?_
    refine lv_iadd hx hb (show decode cL_cell 18 = .ok (.iadd, 1) by decide +kernel) ?_
    refine lv_imul hx hb (show decode cL_cell 19 = .ok (.imul, 1) by decide +kernel) ?_
    refine hend _ _ ?_
    unfold cellv
    rw [if_neg (fun q => Int32.not_le.mpr q hc)]
  · refine lv_aload_n hx hb (show decode cL_cell 6 = .ok (.aload_n 0, 1) by decide +kernel) rfl (lv_at hl 0 rfl) ?_
    refine lv_iload_n hx hb (show decode cL_cell 7 = .ok (.iload_n 1, 1) by decide +kernel) rfl (lv_at hl 1 rfl) ?_
    have hlt : i < Int32.ofNat L := Int32.not_le.mp hc
    refine va_sld hx hb hX hsz hA va_S.rf (i := i) (fun q => ?_) (show decode cL_cell 8 = .ok (.iaload, 1) by decide +kernel) ?_
    · rcases q with q | q
      · exact hi q
      · have e1 := Int32.lt_iff_toInt_lt.mp hlt
        have e2 : (Int32.ofNat L).toInt = (L : Int) := nI_toInt hL
        have e3 : ¬ i.toInt < 0 := fun z => hi (Int32.lt_iff_toInt_lt.mpr (by simpa using z))
        have e4 : i.toNatClampNeg = i.toInt.toNat := rfl
        omega
    · refine lv_goto hx hb (show decode cL_cell 9 = .ok (.goto 11, 3) by decide +kernel) (tgt := 20) (by decide) ?_
      refine hend _ _ ?_
      unfold cellv
      rw [if_pos hlt]
def a_cell (L : Nat) (xs : Nat → Int32) : JA := fun f h => match f.2.2 with
  | .int i :: .ref q :: r => if q = 0 ∧ ¬ i < 0 ∧ jcat r ≤ 8 ∧ L < 2 ^ 31 then some (.inl ((f.1 + 3, f.2.1, .int (cellv L xs i) :: r), h)) else none
  | _ => none
theorem k_cell {idx L : Nat} {xs : Nat → Int32} (hd : decode cc pc = .ok (.invokestatic idx, 3)) (w0 : Cond.code yL_cell cL_cell 2 (some .int) ∈ GW) (w1 : Cond.methodLink own idx yL_cell ∈ GW) (w2 : Cond.static yL_cell ∈ GW) (w3 : Cond.initialized yL_cell.cls ∈ GW) (w4 : Cond.constant RL 7 1116352408 ∈ GW) : JOk tab cc own nm nL (some (L, xs)) pc (a_cell L xs) := by
  refine ⟨fun l st h f' h' e => ?_, fun dd X hdd C l st h => ?_⟩
  · unfold a_cell at e
    split at e
    · split at e
      · cases e
        exact jLe.rf
      · cases e
    · cases e
  · unfold a_cell
    split
    · rename_i i q r hst
      have hst' : st = .int i :: .ref q :: r := hst
      split
      · rename_i hcc
        obtain ⟨rfl, hi, hr, hL⟩ := hcc
        obtain ⟨⟨p, ln, e, R, s⟩, ⟨m, args, below, meth, c⟩, ⟨D, g⟩, ⟨A, n, n0, a0⟩, ⟨c0, s0, cE, sE⟩, Q⟩ := X
        intro b1 b2 kk a ls H locs cells slots hl hq g1 g2
        have hw : jws mL_cell = Cond.code yL_cell cL_cell 2 (some .int) :: GW := rfl
        obtain ⟨hx, hb, hown, ⟨hml, hnL⟩, hts, hK, hZ, ⟨r1, r2, r3, r4⟩, hAA, hscr, hfl, -, -, -⟩ := id C
        obtain ⟨x1, x2, x3, x4⟩ := hscr L xs rfl
        have e0 : a 0 = a0 0 := hq.2.2.1 0 x4
        rw [← e0] at x1 x2 x3
        obtain ⟨-, ⟨v1, v2, v3⟩, -, -, -, -, q1, q2⟩ := id hq
        have hsub := hq.sub C
        show W p ln e R s m args below meth c H locs cells slots Q (F0 m pc ls (st.map (tv a)))
        have hstk : st.map (tv a) = ([Value.ref (a 0), .int i] : List Value).reverse ++ r.map (tv a) := by rw [hst']; rfl
        rw [hstk]
        refine j_after (h1 := h) (st' := r) (r := some (.int (cellv L xs i))) C hl hq ?_ jLe.rf (Or.inl rfl) b1 b2 kk
        exact va_runS (As := [.ref (a 0), .int i]) (rest := r.map (tv a)) ⟨hx, hb, hml, hown, hts⟩ (cell_met hL ln D g a h H.size i hi w4) (va_cwS 2 hts (gw_goodIn (fun w hw2 => by
          unfold va_wsS at hw2
          rw [hw] at hw2
          simp only [List.cons_append, List.nil_append, List.mem_cons] at hw2
          rcases hw2 with rfl | rfl | rfl | rfl | hw2
          · exact w1
          · exact w2
          · exact w3
          · exact w0
          · exact hw2)) hw rfl rfl ⟨by decide +kernel, by decide +kernel, by decide +kernel⟩ ⟨by show 0 + 1 ≤ _; omega, by show 8 + (2 + 11) + 0 ≤ _; omega⟩)
          ⟨fun v U fr mk qq => ⟨qq.1, (jPre.blind D g a h H.size [.ref (a 0), .int i] v U fr mk ⟨qq.1, qq.2.1⟩).2, va_X.moved (u := U) (U := U.calling fr mk v) (Vm.Alike.refl U.vm) qq.2.2.1, qq.2.2.2⟩,
           fun U hU hW => ⟨rfl, hq.pre C hU hW, va_X.moved hW.alike (by rw [hU]; exact x1.kept (v2 _ x2 x3)), by rw [hU]; exact Nat.lt_of_lt_of_le x2 v1, fun z => x3 (hsub _ z)⟩⟩ rfl rfl hl.1 rfl (lv_room (by rw [tv_catsum]; exact hr)) hd ⟨by show cells + _ ≤ _; omega, by show slots + _ ≤ _; omega⟩
      · trivial
    · trivial
end JP26
