section JCL
variable {tab : Nat → JM5} {cc : ByteArray} {own : String} {nm : String × List (Nat × Nat × Nat × Nat)} {nL : Nat} {scr : Option (Nat × (Nat → Int32))} {pc : Nat}
def jcat (st : List Value) : Nat := (st.map fun v => v.category).sum
/-! Math.max, Math.min -/
def a_mmax : JA := fun f h => match f.2.2 with
  | .int y :: .int x :: r => if jcat r ≤ 8 then some (.inl ((f.1 + 3, f.2.1, .int (if x < y then y else x) :: r), h)) else none
  | _ => none
def a_mmin : JA := fun f h => match f.2.2 with
  | .int y :: .int x :: r => if jcat r ≤ 8 then some (.inl ((f.1 + 3, f.2.1, .int (if y < x then y else x) :: r), h)) else none
  | _ => none
theorem k_mmax {idx : Nat} (hd : decode cc pc = .ok (.invokestatic idx, 3)) (w1 : Cond.methodLink own idx Lib.Math.max.name ∈ GW) (w2 : Cond.static Lib.Math.max.name ∈ GW) (w3 : Cond.initialized "java/lang/Math" ∈ GW) (w4 : Cond.code Lib.Math.max.name Lib.Math.max.code 2 (some .int) ∈ GW) : JOk tab cc own nm nL scr pc a_mmax := k_loc (fun f h y e => by
  unfold a_mmax at e
  split at e
  · split at e <;> cases e
  · cases e) (by
  intro l st h f' h' e
  unfold a_mmax at e
  split at e
  · rename_i y x r hst
    split at e
    · rename_i hr
      cases e
      cases hst
      refine ⟨rfl, fun dd p l0 e R s m args below meth c D g A n n0 a0 c0 s0 cE sE Q hdd C0 a ls H locs cells slots hl hq h1 h2 k2 => ?_⟩
      obtain ⟨-, -, -, ⟨hml, -⟩, -, -, -, ⟨r1, r2, r3, r4⟩, -⟩ := id C0
      obtain ⟨-, -, -, -, -, -, q1, q2⟩ := hq
      have hr' : ((r.map (tv a)).map fun v => v.category).sum ≤ 8 := by rw [tv_catsum]; exact hr
      exact va_mmax C0.1 C0.2.1 (hml.trans hl.1.symm) C0.2.2.1 (C0.2.2.2.2.1 _ w1) (C0.2.2.2.2.1 _ w2) (C0.2.2.2.2.1 _ w3) (C0.2.2.2.2.1 _ w4) (by omega) (by omega) (by omega) (by omega) hd (k2 ls hl)
    · cases e
  · cases e)
theorem k_mmin {idx : Nat} (hd : decode cc pc = .ok (.invokestatic idx, 3)) (w1 : Cond.methodLink own idx Lib.Math.min.name ∈ GW) (w2 : Cond.static Lib.Math.min.name ∈ GW) (w3 : Cond.initialized "java/lang/Math" ∈ GW) (w4 : Cond.code Lib.Math.min.name Lib.Math.min.code 2 (some .int) ∈ GW) : JOk tab cc own nm nL scr pc a_mmin := k_loc (fun f h y e => by
  unfold a_mmin at e
  split at e
  · split at e <;> cases e
  · cases e) (by
  intro l st h f' h' e
  unfold a_mmin at e
  split at e
  · rename_i y x r hst
    split at e
    · rename_i hr
      cases e
      cases hst
      refine ⟨rfl, fun dd p l0 e R s m args below meth c D g A n n0 a0 c0 s0 cE sE Q hdd C0 a ls H locs cells slots hl hq h1 h2 k2 => ?_⟩
      obtain ⟨-, -, -, ⟨hml, -⟩, -, -, -, ⟨r1, r2, r3, r4⟩, -⟩ := id C0
      obtain ⟨-, -, -, -, -, -, q1, q2⟩ := hq
      have hr' : ((r.map (tv a)).map fun v => v.category).sum ≤ 8 := by rw [tv_catsum]; exact hr
      exact va_mmin C0.1 C0.2.1 (hml.trans hl.1.symm) C0.2.2.1 (C0.2.2.2.2.1 _ w1) (C0.2.2.2.2.1 _ w2) (C0.2.2.2.2.1 _ w3) (C0.2.2.2.2.1 _ w4) (by omega) (by omega) (by omega) (by omega) hd (k2 ls hl)
    · cases e
  · cases e)
/-! Object's constructor -/
def a_oini : JA := fun f h => match f.2.2 with
  | .ref _ :: r => if jcat r ≤ 8 then some (.inl ((f.1 + 3, f.2.1, r), h)) else none
  | _ => none
theorem k_oini {idx : Nat} (hd : decode cc pc = .ok (.invokespecial idx, 3)) (w1 : Cond.methodLink own idx Lib.objectInit ∈ GW) (w2 : Cond.instanceMethod Lib.objectInit ∈ GW) (w3 : Cond.code Lib.objectInit ⟨#[0xb1]⟩ 1 none ∈ GW) : JOk tab cc own nm nL scr pc a_oini := k_loc (fun f h y e => by
  unfold a_oini at e
  split at e
  · split at e <;> cases e
  · cases e) (by
  intro l st h f' h' e
  unfold a_oini at e
  split at e
  · rename_i q r hst
    split at e
    · rename_i hr
      cases e
      cases hst
      refine ⟨rfl, fun dd p l0 e R s m args below meth c D g A n n0 a0 c0 s0 cE sE Q hdd C0 a ls H locs cells slots hl hq h1 h2 k2 => ?_⟩
      obtain ⟨-, -, -, ⟨hml, -⟩, -, -, -, ⟨r1, r2, r3, r4⟩, -⟩ := id C0
      have hr' : ((r.map (tv a)).map fun v => v.category).sum ≤ 8 := by rw [tv_catsum]; exact hr
      exact W.objInit C0.1 C0.2.1 C0.2.2.1 (C0.2.2.2.2.1 _ w1) (C0.2.2.2.2.1 _ w2) (C0.2.2.2.2.1 _ w3) rfl (hl.1.trans hml.symm) rfl hd (by omega) (by show 2 * 0 + _ + 12 ≤ _; omega) (k2 ls hl)
    · cases e
  · cases e)
/-! System.arraycopy of numbers -/
def a_copy : JA := fun f h => match f.2.2 with
  | .int n :: .int dp :: .ref q :: .int sp :: .ref q0 :: r => match h.2.2.2 q0, h.2.2.2 q with
    | .inl (t0, n0, .inl xs), .inl (t1, n1, .inl ys) => if t0 = 0 ∧ t1 = 0 ∧ jcat r ≤ 8 ∧ ¬ sp < 0 ∧ ¬ dp < 0 ∧ ¬ n < 0 ∧ sp.toNatClampNeg + n.toNatClampNeg ≤ n0 ∧ dp.toNatClampNeg + n.toNatClampNeg ≤ n1 then
        some (.inl ((f.1 + 3, f.2.1, r), (h.1, h.2.1, h.2.2.1, va_up h.2.2.2 q (.inl (0, n1, .inl (va_cpy xs ys sp.toNatClampNeg dp.toNatClampNeg n.toNatClampNeg)))))) else none
    | _, _ => none
  | _ => none
theorem jw_copy {p : Program} {l : Launch} {e : Env} {R : Room} {s : State} {m : MethodId} {args : Array Value} {below : List Frame} {meth : Method} {c : Code} {H : Heap} {locs : List Loc} {cells slots : Nat} {Q : State → Prop} {ls : Array Slot} {rest : List Value} {a : Nat} {tys : List (ClassId × FieldType)}
    (hexec : p.tables.exec = Jvm.exec) (hb : c.code = cc) (hml : c.maxLocals = ls.size) {own : String} {index : Nat} (hown : s.vm.findClass own = some m.cls) (hlink : (Cond.methodLink own index arraycopyName).before args s = true) (hnat : (Cond.native arraycopyName).before args s = true) (hstat : (Cond.static arraycopyName).before args s = true) (hini : (Cond.initialized "java/lang/System").before args s = true)
    {D : va_G} (hK : va_K D vwCl tys s) (t0 t1 : Nat) {a0 : Nat} {c0 c1 : ClassId} {n0 n1 : Nat} {f g : Nat → Int32} {ty : FieldType} (hc0 : H[a0]? = some (vp_cell c0 (n0, .inl f))) (hc1 : H[a]? = some (vp_cell c1 (n1, .inl g))) (ht0 : tys[t0]? = some (c0, ty)) (ht1 : tys[t1]? = some (c1, ty)) (hprim : refKind ty = false)
    {sp dp n : Int32} (h1 : ¬ sp < 0) (h2 : ¬ dp < 0) (h3 : ¬ n < 0) (h4 : sp.toNatClampNeg + n.toNatClampNeg ≤ n0) (h5 : dp.toNatClampNeg + n.toNatClampNeg ≤ n1) (hfit : ∀ i, i < n.toNatClampNeg → fits ty (.int (f (sp.toNatClampNeg + i))) = true)
    (hframes : 1 ≤ R.frames) (hlocals : (rest.map fun v => v.category).sum + (nativeFrameWords "java/lang/System" "arraycopy" 5 + 11) ≤ R.locals) (hdg : decode cc pc = .ok (.invokestatic index, 3))
    (kk : ∀ (H1 : Heap) (locs1 : List Loc), H1[a]? = some (vp_cell c1 (n1, .inl (va_cpy f g sp.toNatClampNeg dp.toNatClampNeg n.toNatClampNeg))) → H1.size = H.size → (∀ q : Nat, q ≠ a → H1[q]? = H[q]?) → (∀ z ∈ locs1, z ∈ locs ∨ z.base = a) → W p l e R s m args below meth c H1 locs1 cells slots Q (F0 m (pc + 3) ls rest)) : W p l e R s m args below meth c H locs cells slots Q (F0 m pc ls (.int n :: .int dp :: .ref a :: .int sp :: .ref a0 :: rest)) := by
  intro T hT X
  obtain ⟨-, k0, hk0, cm0, hkk0⟩ := (hK.2 t0 _ ht0).1 n0 (fun j => .int (f j))
  obtain ⟨-, k1, hk1, cm1, hkk1⟩ := (hK.2 t1 _ ht1).1 n1 (fun j => .int (g j))
  obtain ⟨vm', X', step⟩ := X.arraycopy hexec hown hlink hnat hstat hini (src := a0) (dst := a) (cs := vp_cell c0 (n0, .inl f)) (cd := vp_cell c1 (n1, .inl g)) (srcPos := sp) (destPos := dp) (n := n) (by rw [hT]; exact hc0) (by rw [hT]; exact hc1)
    (fun _ h => by cases h) (fun _ h => by cases h) (fun h => by cases h) (fun h => by cases h) hk0 hk1 hkk0 hkk1 (by simp [hprim]) h1 h2 h3
    (by rw [j_clamp h1, j_clamp h3]; show ¬ _ > ((arrV c0 n0 (fun j => .int (f j))).slots.size : Int); rw [arrV_size]; omega)
    (by rw [j_clamp h2, j_clamp h3]; show ¬ _ > ((arrV c1 n1 (fun j => .int (g j))).slots.size : Int); rw [arrV_size]; omega)
    (fun vm₁ _ i hi => by
      have e : (vp_cell c0 (n0, .inl f)).slots.getD (sp.toNatClampNeg + i) .null = .int (f (sp.toNatClampNeg + i)) := by
        show (arrV c0 n0 (fun j => .int (f j))).slots.getD _ _ = _
        rw [Array.getD_eq_getD_getElem?, arrV_read _ _ (by omega)]
        rfl
      refine ⟨?_, ?_⟩
      · rw [e]
        exact hfit i hi
      · rw [e]
        exact trivial)
    (g := F0 m pc ls (.int n :: .int dp :: .ref a :: .int sp :: .ref a0 :: rest)) rfl (by rw [hml]) (rest := rest) rfl (by rw [hb]; exact hdg) hframes (by show 2 * 0 + _ + _ ≤ _; omega)
  have e1 : copied (vp_cell c0 (n0, .inl f)) (vp_cell c1 (n1, .inl g)) sp dp n = vp_cell c1 (n1, .inl (va_cpy f g sp.toNatClampNeg dp.toNatClampNeg n.toNatClampNeg)) := va_copied (fun z => .int z) c0 c1 f g h4
  rw [e1] at X' step
  have hl : a < H.size := (Array.getElem?_eq_some_iff.mp hc1).1
  have hheap : ((T.setVm vm').setCell a (vp_cell c1 (n1, .inl (va_cpy f g sp.toNatClampNeg dp.toNatClampNeg n.toNatClampNeg)))).heap = H.setIfInBounds a (vp_cell c1 (n1, .inl (va_cpy f g sp.toNatClampNeg dp.toNatClampNeg n.toNatClampNeg))) := by rw [← hT]; rfl
  obtain ⟨t, b1, b2⟩ := kk _ _ (show (H.setIfInBounds a (vp_cell c1 (n1, .inl (va_cpy f g sp.toNatClampNeg dp.toNatClampNeg n.toNatClampNeg))))[a]? = some _ by simp [Array.getElem?_setIfInBounds, hl]) (by simp) (fun q hq => by simp [Array.getElem?_setIfInBounds, Ne.symm hq])
    (fun q hq => by
      rcases List.mem_append.mp hq with h | h
      · exact Or.inl h
      · obtain ⟨z, -, hz⟩ := List.mem_map.mp h
        exact Or.inr (by rw [← hz])) _ hheap X'
  exact ⟨t, step t b1, b2⟩
theorem k_copy {idx : Nat} (hd : decode cc pc = .ok (.invokestatic idx, 3)) (w1 : Cond.methodLink own idx arraycopyName ∈ GW) (w2 : Cond.native arraycopyName ∈ GW) (w3 : Cond.static arraycopyName ∈ GW) (w4 : Cond.initialized "java/lang/System" ∈ GW) : JOk tab cc own nm nL scr pc a_copy := k_wr (fun f h y e => by
  unfold a_copy at e
  split at e
  · split at e
    · split at e <;> cases e
    · cases e
  · cases e) (by
  intro l st h f' h' e
  unfold a_copy at e
  split at e
  · rename_i n dp q sp q0 r hst
    split at e
    · rename_i t0 n0 xs t1 n1 ys hM0 hM1
      split at e
      · rename_i hcc
        obtain ⟨rfl, rfl, hr, g1, g2, g3, g4, g5⟩ := hcc
        cases e
        cases hst
        refine ⟨q, _, rfl, rfl, fun dd p l0 e R s m args below meth c D g A nn nn0 a0 c0 s0 cE sE Q hdd C0 a ls H locs cells slots hR hsz => ?_⟩
        obtain ⟨x1, x2⟩ := hR.okl hM1
        obtain ⟨y1, y2⟩ := hR.okl hM0
        have hat1 := hR.1 q x1 x2
        have hat0 := hR.1 q0 y1 y2
        rw [hM1] at hat1
        rw [hM0] at hat0
        refine ⟨⟨x1, x2, trivial⟩, fun kk => ?_⟩
        obtain ⟨-, -, -, ⟨hml, -⟩, -, -, -, ⟨r1, r2, r3, r4⟩, -⟩ := id C0
        have hr' : ((r.map (tv a)).map fun v => v.category).sum ≤ 8 := by rw [tv_catsum]; exact hr
        have hw : nativeFrameWords "java/lang/System" "arraycopy" 5 + 11 ≤ 28 := by decide +kernel
        exact jw_copy C0.1 C0.2.1 (hml.trans hsz.symm) C0.2.2.1 (C0.2.2.2.2.1 _ w1) (C0.2.2.2.2.1 _ w2) (C0.2.2.2.2.1 _ w3) (C0.2.2.2.2.1 _ w4) C0.2.2.2.2.2.1.1 0 0 hat0 hat1 rfl rfl rfl g1 g2 g3 g4 g5 (fun _ _ => rfl) (by omega) (by omega) hd (fun H1 locs1 e1 e2 e3 e4 => kk H1 locs1 e1 e2 e3 e4)
      · cases e
    · cases e
  · cases e)
/-! returns -/
def a_ret (k : Nat) : JA := fun f h => match f.2.2 with
  | [.int x] => if k = 0 ∨ (k = 1 ∧ (x = 0 ∨ x = 1)) then some (.inr (.inr (.inl (some (.int x))))) else none
  | [.long x] => if k = 2 then some (.inr (.inr (.inl (some (.long x))))) else none
  | [.double x] => if k = 3 then some (.inr (.inr (.inl (some (.double x))))) else none
  | [] => if k = 4 then some (.inr (.inr (.inl none))) else none
  | _ => none
theorem k_ret0 {act : JA} {i : Instr} (hd : decode cc pc = .ok (i, 1)) (ha : ∀ l st h, act (pc, l, st) h = none ∨ ∃ v, act (pc, l, st) h = some (.inr (.inr (.inl v))) ∧ st = v.toList ∧ jRet i v) : JOk tab cc own nm nL scr pc act := by
  refine ⟨fun l st h f' h' e => ?_, fun dd X hdd C l st h => ?_⟩
  · rcases ha l st h with h9 | ⟨v, h9, -⟩ <;> rw [h9] at e <;> cases e
  · rcases ha l st h with h9 | ⟨v, h9, rfl, hr⟩
    · rw [h9]; trivial
    · rw [h9]
      obtain ⟨⟨p, ln, e, R, s⟩, ⟨m, args, below, meth, c⟩, ⟨D, g⟩, ⟨A, n, n0, a0⟩, ⟨c0, s0, cE, sE⟩, Q⟩ := X
      intro k a ls H locs cells slots h1 h2 h3 h4
      exact k a ls H locs cells slots pc i h2 h3 h4 hd hr
theorem k_iret (hd : decode cc pc = .ok (.ireturn, 1)) : JOk tab cc own nm nL scr pc (a_ret 0) := k_ret0 hd (fun l st h => by
  unfold a_ret
  split
  · split
    · exact Or.inr ⟨_, rfl, by assumption, Or.inl ⟨rfl, _, rfl⟩⟩
    · exact Or.inl rfl
  · simp
  · simp
  · simp
  · exact Or.inl rfl)
theorem k_zret (hd : decode cc pc = .ok (.ireturn, 1)) : JOk tab cc own nm nL scr pc (a_ret 1) := k_ret0 hd (fun l st h => by
  unfold a_ret
  split
  · split
    · exact Or.inr ⟨_, rfl, by assumption, Or.inl ⟨rfl, _, rfl⟩⟩
    · exact Or.inl rfl
  · simp
  · simp
  · simp
  · exact Or.inl rfl)
theorem k_lret (hd : decode cc pc = .ok (.lreturn, 1)) : JOk tab cc own nm nL scr pc (a_ret 2) := k_ret0 hd (fun l st h => by
  unfold a_ret
  split
  · simp
  · exact Or.inr ⟨_, rfl, by assumption, Or.inr (Or.inl ⟨rfl, _, rfl⟩)⟩
  · simp
  · simp
  · exact Or.inl rfl)
theorem k_dret (hd : decode cc pc = .ok (.dreturn, 1)) : JOk tab cc own nm nL scr pc (a_ret 3) := k_ret0 hd (fun l st h => by
  unfold a_ret
  split
  · simp
  · simp
  · exact Or.inr ⟨_, rfl, by assumption, Or.inr (Or.inr (Or.inl ⟨rfl, _, rfl⟩))⟩
  · simp
  · exact Or.inl rfl)
theorem k_vret (hd : decode cc pc = .ok (.return_, 1)) : JOk tab cc own nm nL scr pc (a_ret 4) := k_ret0 hd (fun l st h => by
  unfold a_ret
  split
  · simp
  · simp
  · simp
  · exact Or.inr ⟨_, rfl, by assumption, Or.inr (Or.inr (Or.inr ⟨rfl, rfl⟩))⟩
  · exact Or.inl rfl)
end JCL
