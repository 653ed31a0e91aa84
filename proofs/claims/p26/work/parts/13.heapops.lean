section JHO
variable {tab : Nat → JM5} {cc : ByteArray} {own : String} {nm : String × List (Nat × Nat × Nat × Nat)} {nL : Nat} {scr : Option (Nat × (Nat → Int32))} {pc : Nat}
/-- an index in its row -/
def jin (i : Int32) (n : Nat) : Bool := !(decide (i < 0) || decide (n ≤ i.toNatClampNeg))
theorem jin_of {i : Int32} {n : Nat} (h : jin i n = true) : vp_in i n := by
  unfold jin at h
  intro q
  rcases q with q | q
  · rw [decide_eq_true q] at h
    simp at h
  · rw [decide_eq_true q] at h
    simp at h
theorem jin_mk {i : Int32} {n : Nat} (h : vp_in i n) : jin i n = true := by
  unfold jin
  rw [decide_eq_false (fun q => h (Or.inl q)), decide_eq_false (fun q => h (Or.inr q))]
  rfl
theorem jin_nI {k n : Nat} (h : k < n) (hn : n < 2 ^ 31) : jin (nI k) n = true := jin_mk (vp_in_nI h hn)
def a_getf (ci k : Nat) : JA := fun f h => match f.2.2 with
  | .ref q :: r => match h.2.2.2 q with
    | .inr (c, fs) => if c = ci then (match fs[k]? with
      | some v => some (.inl ((f.1 + 3, f.2.1, v :: r), h))
      | none => none) else none
    | _ => none
  | _ => none
theorem a_getf_no {ci k : Nat} : ∀ (f : JF) (h : JH) y, a_getf ci k f h ≠ some (.inr y) := by
  intro f h y e
  unfold a_getf at e
  split at e
  · split at e
    · split at e
      · split at e <;> cases e
      · cases e
    · cases e
  · cases e
theorem k_getf {ci k idx N : Nat} {C : String} {T : u_T} (hd : decode cc pc = .ok (.getfield idx, 3)) (hc : vwCl[ci]? = some (C, T, N)) (hin : ∀ w ∈ u_ws C T N, w ∈ GW) (hk : k < N) (hw : Cond.fieldLink own idx (T k).1 (T k).2.1 (T k).2.2.1 ∈ GW) (h99 : ci < 99) : JOk tab cc own nm nL scr pc (a_getf ci k) := k_loc a_getf_no (by
  intro l st h f' h' e
  unfold a_getf at e
  split at e
  · rename_i q r hst
    split at e
    · rename_i cx fs hM
      split at e
      · rename_i hcc
        subst hcc
        split at e
        · rename_i v hv
          cases e
          cases hst
          refine ⟨rfl, fun dd p l0 e R s m args below meth c D g A n n0 a0 c0 s0 cE sE Q hdd C0 a ls H locs cells slots hl hq h1 h2 k2 => ?_⟩
          obtain ⟨g1, g2⟩ := hq.1.okr hM h99
          have hat := hq.1.1 q g1 g2
          rw [hM] at hat
          exact va_get (ref := (T k).1) (ci := cx) (v := tv a v) C0.1 C0.2.1 C0.2.2.2.2.1 hin C0.2.2.1 C0.2.2.2.2.2.1.1 (va_P1 hat) 0 rfl hc k hk (C0.2.2.2.2.1 _ hw) (fun _ h9 => h9) (by
            show (fs.map (tv a))[k]? = _
            rw [List.getElem?_map, hv]
            rfl) hd (k2 ls hl)
        · cases e
      · cases e
    · cases e
  · cases e)
/-! reading a row -/
def a_iald (t : Nat) : JA := fun f h => match f.2.2 with
  | .int i :: .ref q :: r => match h.2.2.2 q with
    | .inl (t', n, .inl xs) => if t' = t ∧ jin i n = true then some (.inl ((f.1 + 1, f.2.1, .int (xs i.toNatClampNeg) :: r), h)) else none
    | _ => none
  | _ => none
def a_lald : JA := fun f h => match f.2.2 with
  | .int i :: .ref q :: r => match h.2.2.2 q with
    | .inl (t', n, .inr (.inl xs)) => if t' = 2 ∧ jin i n = true then some (.inl ((f.1 + 1, f.2.1, .long (xs i.toNatClampNeg) :: r), h)) else none
    | _ => none
  | _ => none
def a_aald (t : Nat) : JA := fun f h => match f.2.2 with
  | .int i :: .ref q :: r => match h.2.2.2 q with
    | .inl (t', n, .inr (.inr (.inr (.inr xs)))) => if t' = t ∧ jin i n = true then some (.inl ((f.1 + 1, f.2.1, va_rf (xs i.toNatClampNeg) :: r), h)) else none
    | _ => none
  | _ => none
theorem k_iald (hd : decode cc pc = .ok (.iaload, 1)) : JOk tab cc own nm nL scr pc (a_iald 0) := k_loc (fun f h y e => by
  unfold a_iald at e
  split at e
  · split at e
    · split at e <;> cases e
    · cases e
  · cases e) (by
  intro l st h f' h' e
  unfold a_iald at e
  split at e
  · rename_i i q r hst
    split at e
    · rename_i t' n xs hM
      split at e
      · rename_i hcc
        obtain ⟨rfl, hin⟩ := hcc
        cases e
        cases hst
        refine ⟨rfl, fun dd p l0 e R s m args below meth c D g A n1 n0 a0 c0 s0 cE sE Q hdd C0 a ls H locs cells slots hl hq h1 h2 k2 => ?_⟩
        obtain ⟨g1, g2⟩ := hq.1.okl hM
        have hat := hq.1.1 q g1 g2
        rw [hM] at hat
        exact va_iald C0.1 C0.2.1 C0.2.2.2.2.2.1.1 (va_P1 hat) 0 0 rfl rfl (jin_of hin) hd (k2 ls hl)
      · cases e
    · cases e
  · cases e)
theorem tv_rf (a : Nat → Nat) (x : Option Nat) : tv a (va_rf x) = va_rf (x.map a) := by cases x <;> rfl
theorem k_aald {t : Nat} {C : String} (hd : decode cc pc = .ok (.aaload, 1)) (ht : t < 7) (hT : jT t = .object C) : JOk tab cc own nm nL scr pc (a_aald t) := k_loc (fun f h y e => by
  unfold a_aald at e
  split at e
  · split at e
    · split at e <;> cases e
    · cases e
  · cases e) (by
  intro l st h f' h' e
  unfold a_aald at e
  split at e
  · rename_i i q r hst
    split at e
    · rename_i t' n xs hM
      split at e
      · rename_i hcc
        obtain ⟨rfl, hin⟩ := hcc
        cases e
        cases hst
        refine ⟨rfl, fun dd p l0 e R s m args below meth c D g A n1 n0 a0 c0 s0 cE sE Q hdd C0 a ls H locs cells slots hl hq h1 h2 k2 => ?_⟩
        obtain ⟨g1, g2⟩ := hq.1.okl hM
        have hat := hq.1.1 q g1 g2
        rw [hM] at hat
        refine va_aldq (C := C) C0.1 C0.2.1 C0.2.2.2.2.2.1.1 (va_P1 hat) 0 t' rfl (by rw [jtys_at g ht, hT]) (jin_of hin) hd ?_
        have k3 := k2 ls hl
        rw [List.map_cons, tv_rf] at k3
        exact k3
      · cases e
    · cases e
  · cases e)
/-! the script -/
def a_sld (L : Nat) (xs : Nat → Int32) : JA := fun f h => match f.2.2 with
  | .int i :: .ref q :: r => if q = 0 ∧ jin i L = true then some (.inl ((f.1 + 1, f.2.1, .int (xs i.toNatClampNeg) :: r), h)) else none
  | _ => none
def a_slen (L : Nat) : JA := fun f h => match f.2.2 with
  | .ref q :: r => if q = 0 then some (.inl ((f.1 + 1, f.2.1, .int (Int32.ofNat L) :: r), h)) else none
  | _ => none
theorem k_sld {L : Nat} {xs : Nat → Int32} (hd : decode cc pc = .ok (.iaload, 1)) : JOk tab cc own nm nL (some (L, xs)) pc (a_sld L xs) := k_loc (fun f h y e => by
  unfold a_sld at e
  split at e
  · split at e <;> cases e
  · cases e) (by
  intro l st h f' h' e
  unfold a_sld at e
  split at e
  · rename_i i q r hst
    split at e
    · rename_i hcc
      obtain ⟨rfl, hin⟩ := hcc
      cases e
      cases hst
      refine ⟨rfl, fun dd p l0 e R s m args below meth c D g A n1 n0 a0 c0 s0 cE sE Q hdd C0 a ls H locs cells slots hl hq h1 h2 k2 => ?_⟩
      obtain ⟨x1, x2, x3, x4⟩ := C0.2.2.2.2.2.2.2.2.2.1 L xs rfl
      have e0 : a 0 = a0 0 := hq.2.2.1 0 x4
      rw [← e0] at x1 x2 x3
      exact va_sld C0.1 C0.2.1 x1 x2 x3 hq.2.1 (jin_of hin) hd (k2 ls hl)
    · cases e
  · cases e)
theorem k_slen {L : Nat} {xs : Nat → Int32} (hd : decode cc pc = .ok (.arraylength, 1)) : JOk tab cc own nm nL (some (L, xs)) pc (a_slen L) := k_loc (fun f h y e => by
  unfold a_slen at e
  split at e
  · split at e <;> cases e
  · cases e) (by
  intro l st h f' h' e
  unfold a_slen at e
  split at e
  · rename_i q r hst
    split at e
    · rename_i hcc
      cases e
      cases hst
      subst hcc
      refine ⟨rfl, fun dd p l0 e R s m args below meth c D g A n1 n0 a0 c0 s0 cE sE Q hdd C0 a ls H locs cells slots hl hq h1 h2 k2 => ?_⟩
      obtain ⟨x1, x2, x3, x4⟩ := C0.2.2.2.2.2.2.2.2.2.1 L xs rfl
      have e0 : a 0 = a0 0 := hq.2.2.1 0 x4
      rw [← e0] at x1 x2 x3
      exact va_slen C0.1 C0.2.1 x1 x2 x3 hq.2.1 hd (k2 ls hl)
    · cases e
  · cases e)
/-! writes -/
def jWr (tab : Nat → JM5) (cc : ByteArray) (own : String) (nm : String × List (Nat × Nat × Nat × Nat)) (nL : Nat) (scr : Option (Nat × (Nat → Int32))) (pc : Nat) (act : JA) : Prop := ∀ l st h f' h', act (pc, l, st) h = some (.inl (f', h')) →
  ∃ (q : Nat) (y : JC), h' = (h.1, h.2.1, h.2.2.1, va_up h.2.2.2 q y) ∧ f'.2.1 = l ∧
  ∀ dd (p : Program) (l0 : Launch) (e : Env) (R : Room) (s : State) (m : MethodId) (args : Array Value) (below : List Frame) (meth : Method) (c : Code) (D : va_G) (g : Nat → ClassId) (A : Nat → Prop) (n n0 : Nat) (a0 : Nat → Nat) (c0 s0 cE sE : Nat) (Q : State → Prop), 1 ≤ dd →
    jC cc own nm nL dd scr ((p, l0, e, R, s), (m, args, below, meth, c), (D, g), (A, n, n0, a0), (c0, s0, cE, sE), Q) →
    ∀ (a : Nat → Nat) (ls : Array Slot) (H : Heap) (locs : List Loc) (cells slots : Nat), jR D g a h.1 h.2.2.2 H → ls.size = n → (0 < q ∧ q < h.1 ∧ jwf h.1 y) ∧
    ((∀ (H1 : Heap) (locs1 : List Loc), va_at D vwCl (a q, te g a y) H1 → H1.size = H.size → (∀ x : Nat, x ≠ a q → H1[x]? = H[x]?) → (∀ z ∈ locs1, z ∈ locs ∨ z.base = a q) → W p l0 e R s m args below meth c H1 locs1 cells slots Q (F0 m f'.1 ls (f'.2.2.map (tv a)))) → W p l0 e R s m args below meth c H locs cells slots Q (F0 m pc ls (st.map (tv a))))
theorem k_wr {act : JA} (h0 : ∀ f h y, act f h ≠ some (.inr y)) (hk : jWr tab cc own nm nL scr pc act) : JOk tab cc own nm nL scr pc act := by
  refine ⟨fun l st h f' h' e => ?_, fun dd X hdd C l st h => ?_⟩
  · obtain ⟨q, y, rfl, -⟩ := hk l st h f' h' e
    exact jLe.rf
  · obtain ⟨⟨p, ln, e, R, s⟩, ⟨m, args, below, meth, c⟩, ⟨D, g⟩, ⟨A, n, n0, a0⟩, ⟨c0, s0, cE, sE⟩, Q⟩ := X
    cases hs : act (pc, l, st) h with
    | none => trivial
    | some z =>
      obtain ⟨f', h'⟩ | z := z
      · obtain ⟨q, y, rfl, hl', w⟩ := hk l st h f' h' hs
        intro _ _ k a ls H locs cells slots h1 h2 h3 h4
        obtain ⟨⟨g1, g2, g3⟩, w2⟩ := w dd p ln e R s m args below meth c D g A n n0 a0 c0 s0 cE sE Q hdd C a ls H locs cells slots h2.1 h1.1
        refine w2 (fun H1 locs1 e1 e2 e3 e4 => k a ls H1 locs1 cells slots (by rw [hl']; exact h1) (h2.put C g1 g2 g3 e1 e2 e3 e4) h3 h4)
      · exact absurd hs (h0 _ _ z)
theorem jloc1 {a k : Nat} {locs : List Loc} : ∀ z ∈ locs ++ [⟨a, k⟩], z ∈ locs ∨ z.base = a := fun z hz => (List.mem_append.mp hz).elim Or.inl (fun h => Or.inr (by rw [List.mem_singleton.mp h]))
def a_puti (ci k : Nat) : JA := fun f h => match f.2.2 with
  | .int x :: .ref q :: r => match h.2.2.2 q with
    | .inr (c, fs) => if c = ci ∧ k < fs.length then some (.inl ((f.1 + 3, f.2.1, r), (h.1, h.2.1, h.2.2.1, va_up h.2.2.2 q (.inr (ci, fs.set k (.int x)))))) else none
    | _ => none
  | _ => none
def a_putr (ci k : Nat) : JA := fun f h => match f.2.2 with
  | .ref x :: .ref q :: r => match h.2.2.2 q with
    | .inr (c, fs) => if c = ci ∧ k < fs.length ∧ x < h.1 then some (.inl ((f.1 + 3, f.2.1, r), (h.1, h.2.1, h.2.2.1, va_up h.2.2.2 q (.inr (ci, fs.set k (.ref x)))))) else none
    | _ => none
  | _ => none
theorem jwf_set {n c k : Nat} {fs : List Value} {v : Value} (h : jwf n (.inr (c, fs))) (hv : vwf n v) : jwf n (.inr (c, fs.set k v)) := by
  intro w hw
  rcases List.mem_or_eq_of_mem_set hw with h1 | h1
  · exact h w h1
  · rw [h1]; exact hv
theorem k_puti {ci k idx N : Nat} {C : String} {T : u_T} {ty0 : Nat → FieldType} (hd : decode cc pc = .ok (.putfield idx, 3)) (hc : vwCl[ci]? = some (C, T, N)) (hin : ∀ w ∈ u_ws C T N, w ∈ GW) (hty : ∀ k, k < N → parseFieldDescriptor (T k).2.2.1 = some (ty0 k)) (hnm : ∀ a, a < N → ∀ b, b < N → a ≠ b → (T a).2.1 ≠ (T b).2.1) (hk : k < N) (hfin : (T k).2.2.2 = false) (hi : ty0 k = .int) (hw : Cond.fieldLink own idx (T k).1 (T k).2.1 (T k).2.2.1 ∈ GW) (h99 : ci < 99) : JOk tab cc own nm nL scr pc (a_puti ci k) := k_wr (fun f h y e => by
  unfold a_puti at e
  split at e
  · split at e
    · split at e <;> cases e
    · cases e
  · cases e) (by
  intro l st h f' h' e
  unfold a_puti at e
  split at e
  · rename_i x q r hst
    split at e
    · rename_i cx fs hM
      split at e
      · rename_i hcc
        obtain ⟨rfl, hlen⟩ := hcc
        cases e
        cases hst
        refine ⟨q, _, rfl, rfl, fun dd p l0 e R s m args below meth c D g A n n0 a0 c0 s0 cE sE Q hdd C0 a ls H locs cells slots hR hsz => ?_⟩
        obtain ⟨g1, g2⟩ := hR.okr hM h99
        have hat := hR.1 q g1 g2
        have hwf := hR.2.2.1 q g1 g2
        rw [hM] at hat hwf
        refine ⟨⟨g1, g2, jwf_set hwf trivial⟩, fun kk => ?_⟩
        refine jw_put C0.1 C0.2.1 C0.2.2.2.2.1 hin ty0 hty hnm C0.2.2.1 C0.2.2.2.2.2.1.1 hat hc k hk (C0.2.2.2.2.1 _ hw) hfin (by rw [hty k hk, hi]) rfl rfl (by rw [List.length_map]; exact hlen) hd (fun H1 i e1 e2 e3 => kk H1 _ ?_ e2 e3 jloc1)
        show va_at D vwCl (a q, .inr (cx, (fs.set k (.int x)).map (tv a))) H1
        rw [List.map_set]
        exact e1
      · cases e
    · cases e
  · cases e)
theorem k_putrF {ci k idx N : Nat} {C Cv : String} {T : u_T} {ty0 : Nat → FieldType} {ty : FieldType} (hd : decode cc pc = .ok (.putfield idx, 3)) (hc : vwCl[ci]? = some (C, T, N)) (hin : ∀ w ∈ u_ws C T N, w ∈ GW) (hty : ∀ k, k < N → parseFieldDescriptor (T k).2.2.1 = some (ty0 k)) (hnm : ∀ a, a < N → ∀ b, b < N → a ≠ b → (T a).2.1 ≠ (T b).2.1) (hk : k < N) (hfin : (T k).2.2.2 = true) (hini : nm.1 = "<init>") (hdc : (T k).1 = own) (hi : ty0 k = ty) (hfit : ∀ x, narrow ty (.ref x) = .ref x ∧ fits ty (.ref x) = true) (hw : Cond.fieldLink own idx (T k).1 (T k).2.1 (T k).2.2.1 ∈ GW) (h99 : ci < 99) : JOk tab cc own nm nL scr pc (a_putr ci k) := k_wr (fun f h y e => by
  unfold a_putr at e
  split at e
  · split at e
    · split at e <;> cases e
    · cases e
  · cases e) (by
  intro l st h f' h' e
  unfold a_putr at e
  split at e
  · rename_i x q r hst
    split at e
    · rename_i cx fs hM
      split at e
      · rename_i hcc
        obtain ⟨rfl, hlen, hx⟩ := hcc
        cases e
        cases hst
        refine ⟨q, _, rfl, rfl, fun dd p l0 e R s m args below meth c D g A n n0 a0 c0 s0 cE sE Q hdd C0 a ls H locs cells slots hR hsz => ?_⟩
        obtain ⟨g1, g2⟩ := hR.okr hM h99
        have hat := hR.1 q g1 g2
        have hwf := hR.2.2.1 q g1 g2
        rw [hM] at hat hwf
        refine ⟨⟨g1, g2, jwf_set hwf hx⟩, fun kk => ?_⟩
        refine jw_putF C0.1 C0.2.1 C0.2.2.2.2.1 hin ty0 hty hnm C0.2.2.1 C0.2.2.2.2.2.1.1 hat hc k hk (C0.2.2.2.2.1 _ hw) hfin (C0.2.2.2.2.2.2.2.2.2.2.2.2.1 hini) hdc (by rw [hty k hk, hi]) (hfit _).1 (hfit _).2 (by rw [List.length_map]; exact hlen) hd (fun H1 i e1 e2 e3 => kk H1 _ ?_ e2 e3 jloc1)
        show va_at D vwCl (a q, .inr (cx, (fs.set k (.ref x)).map (tv a))) H1
        rw [List.map_set]
        exact e1
      · cases e
    · cases e
  · cases e)
end JHO
