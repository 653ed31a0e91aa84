section JHO2
variable {tab : Nat → JM5} {cc : ByteArray} {own : String} {nm : String × List (Nat × Nat × Nat × Nat)} {nL : Nat} {scr : Option (Nat × (Nat → Int32))} {pc : Nat}
def a_iast : JA := fun f h => match f.2.2 with
  | .int x :: .int i :: .ref q :: r => match h.2.2.2 q with
    | .inl (t', n, .inl xs) => if t' = 0 ∧ jin i n = true then some (.inl ((f.1 + 1, f.2.1, r), (h.1, h.2.1, h.2.2.1, va_up h.2.2.2 q (.inl (0, n, .inl (upd xs i.toNatClampNeg x)))))) else none
    | _ => none
  | _ => none
def a_zast : JA := fun f h => match f.2.2 with
  | .int x :: .int i :: .ref q :: r => match h.2.2.2 q with
    | .inl (t', n, .inl xs) => if t' = 1 ∧ jin i n = true then some (.inl ((f.1 + 1, f.2.1, r), (h.1, h.2.1, h.2.2.1, va_up h.2.2.2 q (.inl (1, n, .inl (upd xs i.toNatClampNeg (vp_nar .boolean x))))))) else none
    | _ => none
  | _ => none
def a_last : JA := fun f h => match f.2.2 with
  | .long x :: .int i :: .ref q :: r => match h.2.2.2 q with
    | .inl (t', n, .inr (.inl xs)) => if t' = 2 ∧ jin i n = true then some (.inl ((f.1 + 1, f.2.1, r), (h.1, h.2.1, h.2.2.1, va_up h.2.2.2 q (.inl (2, n, .inr (.inl (vp_updL xs i.toNatClampNeg x))))))) else none
    | _ => none
  | _ => none
def a_aast (t ci : Nat) : JA := fun f h => match f.2.2 with
  | .ref x :: .int i :: .ref q :: r => match h.2.2.2 q with
    | .inl (t', n, .inr (.inr (.inr (.inr xs)))) => if t' = t ∧ jin i n = true then (match h.2.2.2 x with
      | .inr (c, _) => if c = ci then some (.inl ((f.1 + 1, f.2.1, r), (h.1, h.2.1, h.2.2.1, va_up h.2.2.2 q (.inl (t, n, .inr (.inr (.inr (.inr (va_up xs i.toNatClampNeg (some x)))))))))) else none
      | _ => none) else none
    | _ => none
  | _ => none
theorem k_iast (hd : decode cc pc = .ok (.iastore, 1)) : JOk tab cc own nm nL scr pc a_iast := k_wr (fun f h y e => by
  unfold a_iast at e
  split at e
  · split at e
    · split at e <;> cases e
    · cases e
  · cases e) (by
  intro l st h f' h' e
  unfold a_iast at e
  split at e
  · rename_i x i q r hst
    split at e
    · rename_i t' n xs hM
      split at e
      · rename_i hcc
        obtain ⟨rfl, hin⟩ := hcc
        cases e
        cases hst
        refine ⟨q, _, rfl, rfl, fun dd p l0 e R s m args below meth c D g A n1 n0 a0 c0 s0 cE sE Q hdd C0 a ls H locs cells slots hR hsz => ?_⟩
        obtain ⟨g1, g2⟩ := hR.okl hM
        have hat := hR.1 q g1 g2
        rw [hM] at hat
        refine ⟨⟨g1, g2, trivial⟩, fun kk => ?_⟩
        have hin2 := jin_of hin
        refine W.iast C0.1 C0.2.1 hat ((C0.2.2.2.2.2.1.1.2 0 _ rfl).1 n (fun j => .int (xs j))) (fun q => by cases q) (by show ¬ (i < 0 ∨ (arrV _ _ _).slots.size ≤ _); rw [arrV_size]; exact hin2) rfl rfl hd fun H1 e z oq => ?_
        refine kk H1 _ ?_ z oq jloc1
        show H1[a q]? = some (vp_cell _ _)
        rw [e]
        show some ((vp_cell (g 0) (n, .inl xs)).setSlot i.toNatClampNeg (.int x)) = some (vp_cell (g 0) (n, .inl (upd xs i.toNatClampNeg x)))
        rw [vp_cell_i, vp_cell_i, arrV_store]
        congr 2
        funext q2
        by_cases hq : q2 = i.toNatClampNeg
        · subst hq
          simp [updV, upd]
          
        · simp [updV, upd, hq]
      · cases e
    · cases e
  · cases e)
theorem k_aast {t ci : Nat} {r0 : vw_C} (hd : decode cc pc = .ok (.aastore, 1)) (ht : t < 7) (hc : vwCl[ci]? = some r0) (hT : jT t = .object r0.1) (h99 : ci < 99) : JOk tab cc own nm nL scr pc (a_aast t ci) := k_wr (fun f h y e => by
  unfold a_aast at e
  split at e
  · split at e
    · split at e
      · split at e
        · split at e <;> cases e
        · cases e
      · cases e
    · cases e
  · cases e) (by
  intro l st h f' h' e
  unfold a_aast at e
  split at e
  · rename_i x i q r hst
    split at e
    · rename_i t' n xs hM
      split at e
      · rename_i hcc
        obtain ⟨rfl, hin⟩ := hcc
        split at e
        · rename_i cx fx hMx
          split at e
          · rename_i hcx
            subst hcx
            cases e
            cases hst
            refine ⟨q, _, rfl, rfl, fun dd p l0 e R s m args below meth c D g A n1 n0 a0 c0 s0 cE sE Q hdd C0 a ls H locs cells slots hR hsz => ?_⟩
            obtain ⟨g1, g2⟩ := hR.okl hM
            obtain ⟨x1, x2⟩ := hR.okr hMx h99
            have hat := hR.1 q g1 g2
            have hatx := hR.1 x x1 x2
            have hwf := hR.2.2.1 q g1 g2
            rw [hM] at hat hwf
            rw [hMx] at hatx
            refine ⟨⟨g1, g2, fun j y hj => ?_⟩, fun kk => ?_⟩
            · by_cases hji : j = i.toNatClampNeg
              · subst hji
                rw [va_up_self] at hj
                cases hj
                exact x2
              · rw [va_up_ne _ _ hji] at hj
                exact hwf j y hj
            have hin2 := jin_of hin
            have hK := C0.2.2.2.2.2.1.1
            have hlt : i.toNatClampNeg < n := Nat.not_le.mp fun q => hin2 (Or.inr q)
            have h0 : ¬ i < 0 := fun q => hin2 (Or.inl q)
            obtain ⟨r', hr', cellV, g1, g2, g3, -⟩ := hatx
            have hcls := (hK.1 cx r0 hc).2
            have htt : (jtys g)[t']? = some (g t', .object r0.1) := by rw [jtys_at g ht, hT]
            obtain ⟨kA, comp, k1, k2, k3, -⟩ := (hK.2 t' _ htt).2
            have hcomp : comp = D.1 cx := Option.some.inj (k3.symm.trans hcls.1)
            subst hcomp
            obtain ⟨kC, hkC, -⟩ := hcls.2
            refine W.aast C0.1 C0.2.1 hat (fun q h => by cases h) (fun h => by cases h) k1 k2 rfl hkC ⟨h0, by show _ < (arrV _ _ _).slots.size; rw [arrV_size]; exact hlt⟩ g1 (fun q h => by rw [g3] at h; cases h) (by rw [g2]; exact hkC) (by rw [g2]; exact va_assign hcls) rfl rfl hd fun H1 e z oq => ?_
            refine kk H1 _ ?_ z oq jloc1
            show H1[a q]? = some (vp_cell _ _)
            rw [e]
            show some ((vp_cell (g t') (n, .inr (.inr (.inr (.inr (fun j => (xs j).map a)))))).setSlot i.toNatClampNeg (.ref (a x))) = some (vp_cell (g t') (n, .inr (.inr (.inr (.inr (fun j => (va_up xs i.toNatClampNeg (some x) j).map a))))))
            rw [vp_cell_q, vp_cell_q, arrV_store]
            congr 2
            funext q2
            by_cases hq : q2 = i.toNatClampNeg
            · subst hq
              simp [updV, va_up, va_rf]
            · simp [updV, va_up, hq]
          · cases e
        · cases e
      · cases e
    · cases e
  · cases e)
end JHO2
