/-! another field, at q -/
def OF (b q : Nat) (mo : Mem) (M : JM) : Prop := (q + 29 ≤ b ∨ b + 29 ≤ q) ∧ ∀ r, r < 29 → M (q + r) = layF.2.1 q r (mo (layF.2.2 r).1 (layF.2.2 r).2)
section OFS
variable {b q i k : Nat} {m mo : Mem} {M : JM} {v : Int32}
theorem of_r (h : OF b q mo M) {r : Nat} (hr : r < 29) : fm b m M (q + r) = layF.2.1 q r (mo (layF.2.2 r).1 (layF.2.2 r).2) := by
  have h1 := h.1
  exact (um_out (L := layF) (b := b) (q := q + r) (m := m) (M := M) (show ¬ (b ≤ q + r ∧ q + r < b + 29) by omega)).trans (h.2 r hr)
theorem of_F (h : OF b q mo M) : fm b m M q = cF q (mo 0 0) := of_r h (r := 0) (by decide)
theorem of_FS (h : OF b q mo M) : fm b m M (q + 1) = cR 3 6 (q + 8) := of_r h (r := 1) (by decide)
theorem of_FT (h : OF b q mo M) : fm b m M (q + 2) = cR 4 3 (q + 14) := of_r h (r := 2) (by decide)
theorem of_FA (h : OF b q mo M) : fm b m M (q + 3) = cR 5 12 (q + 17) := of_r h (r := 3) (by decide)
theorem of_L (h : OF b q mo M) : fm b m M (q + 4) = cG q (mo 4 0) := of_r h (r := 4) (by decide)
theorem of_L5 (h : OF b q mo M) : fm b m M (q + 5) = cI 30 (mo 5 0) := of_r h (r := 5) (by decide)
theorem of_L6 (h : OF b q mo M) : fm b m M (q + 6) = cI 30 (mo 6 0) := of_r h (r := 6) (by decide)
theorem of_L7 (h : OF b q mo M) : fm b m M (q + 7) = cI 30 (mo 7 0) := of_r h (r := 7) (by decide)
theorem of_S (h : OF b q mo M) (hi : i < 6) : fm b m M (q + 8 + i) = cS (mo 1 i) := by
  rw [show q + 8 + i = q + (8 + i) by omega, of_r h (show 8 + i < 29 by omega), (layF_S hi _).1, (layF_S (b := q) hi (mo 1 i)).2]
theorem of_T (h : OF b q mo M) (hi : i < 3) : fm b m M (q + 14 + i) = cT (mo 2 i) := by
  rw [show q + 14 + i = q + (14 + i) by omega, of_r h (show 14 + i < 29 by omega), (layF_T hi _).1, (layF_T (b := q) hi (mo 1 i)).2]
theorem of_A (h : OF b q mo M) (hi : i < 12) : fm b m M (q + 17 + i) = cA (mo 3 i) := by
  rw [show q + 17 + i = q + (17 + i) by omega, of_r h (show 17 + i < 29 by omega), (layF_A hi _).1, (layF_A (b := q) hi (mo 1 i)).2]
/-- a row of the log as a whole -/
noncomputable def cpR (m : Mem) (f : Nat) (mo : Mem) : Mem := fun f' i' => if f' = f ∧ i' = 0 then va_cpy (mo f 0) (m f 0) 0 0 30 else m f' i'
theorem um_set {L : Lay} {b r : Nat} {m m' : Mem} {M : JM} {C : JC} (h : r < L.1) (hC : C = L.2.1 b r (m' (L.2.2 r).1 (L.2.2 r).2)) (ho : ∀ r', r' < L.1 → r' ≠ r → m' (L.2.2 r').1 (L.2.2 r').2 = m (L.2.2 r').1 (L.2.2 r').2) : va_up (um L b m M) (b + r) C = um L b m' M := by
  funext q
  by_cases e : q = b + r
  · subst e
    rw [va_up_self, um_rd h, hC]
  · rw [va_up_ne _ _ e]
    unfold um
    by_cases g : b ≤ q ∧ q < b + L.1
    · rw [if_pos g, if_pos g, ho _ (by omega) (by omega)]
    · rw [if_neg g, if_neg g]
theorem cp_set {f : Nat} (hf : f = 5 ∨ f = 6 ∨ f = 7) : va_up (fm b m M) (b + f) (.inl (0, 30, .inl (va_cpy (mo f 0) (m f 0) 0 0 30))) = fm b (cpR m f mo) M := by
  have hf2 : layF.2.2 f = (f, 0) := by rcases hf with rfl | rfl | rfl <;> rfl
  have hf3 : layF.2.1 b f (va_cpy (mo f 0) (m f 0) 0 0 30) = cI 30 (va_cpy (mo f 0) (m f 0) 0 0 30) := by rcases hf with rfl | rfl | rfl <;> rfl
  refine um_set (L := layF) (r := f) (show f < 29 by omega) ?_ (fun r' h' hn => ?_)
  · rw [hf2]
    show _ = layF.2.1 b f (cpR m f mo f 0)
    rw [show cpR m f mo f 0 = va_cpy (mo f 0) (m f 0) 0 0 30 from if_pos ⟨rfl, rfl⟩, hf3]
    rfl
  · have := layF_inj f (show f < 29 by omega) r' h' hn
    rw [hf2] at this
    exact if_neg this
end OFS
theorem JV.copy {E : JE} {cd : List (Nat × JA)} {pc p2 n c s : Nat} {l : List (Nat × Value)} {r : List Value} {hf : JH} {o : JO} {M M' : JM} {q q0 n0 n1 : Nat} {nn dp sp : Int32} {xs ys : Nat → Int32} (hl : jlk cd pc = some a_copy) (hM0 : M q0 = .inl (0, n0, .inl xs)) (hM1 : M q = .inl (0, n1, .inl ys)) (hr : jcat r ≤ 8) (h1 : ¬ sp < 0) (h2 : ¬ dp < 0) (h3 : ¬ nn < 0) (h4 : sp.toNatClampNeg + nn.toNatClampNeg ≤ n0) (h5 : dp.toNatClampNeg + nn.toNatClampNeg ≤ n1) (hM' : va_up M q (.inl (0, n1, .inl (va_cpy xs ys sp.toNatClampNeg dp.toNatClampNeg nn.toNatClampNeg))) = M') (hp : pc + 3 = p2) (kk : JV E cd (p2, l, r) (n, c, s, M') o hf) : JV E cd (pc, l, .int nn :: .int dp :: .ref q :: .int sp :: .ref q0 :: r) (n, c, s, M) o hf := fun e he => JR.copy hl hM0 hM1 hr h1 h2 h3 h4 h5 hM' hp (kk e he)
noncomputable def y_X2_copyFrom (m : Mem) (mo : Mem) : Mem := up3 (cpR (cpR (cpR m 5 mo) 6 mo) 7 mo) 4 0 0 (mo 4 0 0)
theorem xe_X2_copyFrom : ∃ f, f = y_X2_copyFrom := ⟨y_X2_copyFrom, rfl⟩
noncomputable def x_X2_copyFrom := Classical.choose xe_X2_copyFrom
theorem x_X2_copyFrom_eq : x_X2_copyFrom = y_X2_copyFrom := Classical.choose_spec xe_X2_copyFrom
theorem ev_X2_copyFrom {d n c s b : Nat} {m : Mem} {M : JM} {q : Nat} {mo : Mem} {res : Mem} (hd : 1 ≤ d) (hO : OF b q mo M) (hx : x_X2_copyFrom m mo = res) : Ev mtab mcode d 43 [.ref (b + 4), .ref (q + 4)] (n, c, s, fm b m M) (.inl none) (n, c, s, fm b res M) := by
  obtain ⟨d, rfl⟩ : ∃ e, d = e + 1 := ⟨d - 1, by omega⟩
  rw [x_X2_copyFrom_eq] at hx
  unfold y_X2_copyFrom at hx
  refine jv_mk (m := mX2_copyFrom) (cd := jcX2_copyFrom) rfl rfl (Nat.le_of_ble_eq_true rfl) trivial ?_
  refine JV.ald (p2 := 1) rfl rfl rfl ?_
  refine JV.getf (p2 := 4) rfl (of_L hO) rfl rfl ?_
  refine JV.stk (len := 1) (sem := (s_push (.int 0))) (p2 := 5) rfl rfl rfl ?_
  refine JV.ald (p2 := 6) rfl rfl rfl ?_
  refine JV.getLr0 (p2 := 9) rfl rfl ?_
  refine JV.stk (len := 1) (sem := (s_push (.int 0))) (p2 := 10) rfl rfl rfl ?_
  refine JV.stk (len := 2) (sem := (s_push (.int 30))) (p2 := 12) rfl rfl rfl ?_
  refine JV.copy (p2 := 15) rfl (of_L5 hO) fm_L5 (Nat.le_of_ble_eq_true rfl) (by decide) (by decide) (by decide) (by decide) (by decide) (cp_set (Or.inl rfl)) rfl ?_
  refine JV.ald (p2 := 16) rfl rfl rfl ?_
  refine JV.getf (p2 := 19) rfl (of_L hO) rfl rfl ?_
  refine JV.stk (len := 1) (sem := (s_push (.int 0))) (p2 := 20) rfl rfl rfl ?_
  refine JV.ald (p2 := 21) rfl rfl rfl ?_
  refine JV.getLr1 (p2 := 24) rfl rfl ?_
  refine JV.stk (len := 1) (sem := (s_push (.int 0))) (p2 := 25) rfl rfl rfl ?_
  refine JV.stk (len := 2) (sem := (s_push (.int 30))) (p2 := 27) rfl rfl rfl ?_
  refine JV.copy (p2 := 30) rfl (of_L6 hO) fm_L6 (Nat.le_of_ble_eq_true rfl) (by decide) (by decide) (by decide) (by decide) (by decide) (cp_set (Or.inr (Or.inl rfl))) rfl ?_
  refine JV.ald (p2 := 31) rfl rfl rfl ?_
  refine JV.getf (p2 := 34) rfl (of_L hO) rfl rfl ?_
  refine JV.stk (len := 1) (sem := (s_push (.int 0))) (p2 := 35) rfl rfl rfl ?_
  refine JV.ald (p2 := 36) rfl rfl rfl ?_
  refine JV.getLr2 (p2 := 39) rfl rfl ?_
  refine JV.stk (len := 1) (sem := (s_push (.int 0))) (p2 := 40) rfl rfl rfl ?_
  refine JV.stk (len := 2) (sem := (s_push (.int 30))) (p2 := 42) rfl rfl rfl ?_
  refine JV.copy (p2 := 45) rfl (of_L7 hO) fm_L7 (Nat.le_of_ble_eq_true rfl) (by decide) (by decide) (by decide) (by decide) (by decide) (cp_set (Or.inr (Or.inr rfl))) rfl ?_
  refine JV.ald (p2 := 46) rfl rfl rfl ?_
  refine JV.ald (p2 := 47) rfl rfl rfl ?_
  refine JV.getf (p2 := 50) rfl (of_L hO) rfl rfl ?_
  refine JV.putL0 (p2 := 53) rfl rfl ?_
  subst hx
  exact JV.ret rfl (fun _ => rfl) rfl rfl

noncomputable def y_X0_copyFrom (m : Mem) (i : Nat) (mo : Mem) (k : Nat) : Mem := (up3 (up3 (up3 (up3 (up3 (up3 (up3 (up3 (up3 (up3 m 3 i 0 (mo 3 k 0)) 3 i 1 (mo 3 k 1)) 3 i 2 (mo 3 k 2)) 3 i 3 (mo 3 k 3)) 3 i 4 (mo 3 k 4)) 3 i 5 (mo 3 k 5)) 3 i 6 (mo 3 k 6)) 3 i 7 (mo 3 k 7)) 3 i 8 (mo 3 k 8)) 3 i 9 (mo 3 k 9))
theorem xe_X0_copyFrom : ∃ f, f = y_X0_copyFrom := ⟨y_X0_copyFrom, rfl⟩
noncomputable def x_X0_copyFrom := Classical.choose xe_X0_copyFrom
theorem x_X0_copyFrom_eq : x_X0_copyFrom = y_X0_copyFrom := Classical.choose_spec xe_X0_copyFrom
theorem ev_X0_copyFrom {d n c s b : Nat} {m : Mem} {M : JM} {i : Nat} {q : Nat} {mo : Mem} {k : Nat} {res : Mem} (hd : 1 ≤ d) (hi : i < 12) (h_k : k < 12) (hO : OF b q mo M) (hx : x_X0_copyFrom m i mo k = res) : Ev mtab mcode d 2 [.ref (b + 17 + i), .ref (q + 17 + k)] (n, c, s, fm b m M) (.inl none) (n, c, s, fm b res M) := by
  obtain ⟨d, rfl⟩ : ∃ e, d = e + 1 := ⟨d - 1, by omega⟩
  rw [x_X0_copyFrom_eq] at hx
  unfold y_X0_copyFrom at hx
  refine jv_mk (m := mX0_copyFrom) (cd := jcX0_copyFrom) rfl rfl (Nat.le_of_ble_eq_true rfl) trivial ?_
  refine JV.ald (p2 := 1) rfl rfl rfl ?_
  refine JV.ald (p2 := 2) rfl rfl rfl ?_
  refine JV.getf (p2 := 5) rfl (of_A hO (by omega)) rfl rfl ?_
  refine JV.putA0 (p2 := 8) rfl (by omega) rfl ?_
  refine JV.ald (p2 := 9) rfl rfl rfl ?_
  refine JV.ald (p2 := 10) rfl rfl rfl ?_
  refine JV.getf (p2 := 13) rfl (of_A hO (by omega)) rfl rfl ?_
  refine JV.putA1 (p2 := 16) rfl (by omega) rfl ?_
  refine JV.ald (p2 := 17) rfl rfl rfl ?_
  refine JV.ald (p2 := 18) rfl rfl rfl ?_
  refine JV.getf (p2 := 21) rfl (of_A hO (by omega)) rfl rfl ?_
  refine JV.putA2 (p2 := 24) rfl (by omega) rfl ?_
  refine JV.ald (p2 := 25) rfl rfl rfl ?_
  refine JV.ald (p2 := 26) rfl rfl rfl ?_
  refine JV.getf (p2 := 29) rfl (of_A hO (by omega)) rfl rfl ?_
  refine JV.putA3 (p2 := 32) rfl (by omega) rfl ?_
  refine JV.ald (p2 := 33) rfl rfl rfl ?_
  refine JV.ald (p2 := 34) rfl rfl rfl ?_
  refine JV.getf (p2 := 37) rfl (of_A hO (by omega)) rfl rfl ?_
  refine JV.putA4 (p2 := 40) rfl (by omega) rfl ?_
  refine JV.ald (p2 := 41) rfl rfl rfl ?_
  refine JV.ald (p2 := 42) rfl rfl rfl ?_
  refine JV.getf (p2 := 45) rfl (of_A hO (by omega)) rfl rfl ?_
  refine JV.putA5 (p2 := 48) rfl (by omega) rfl ?_
  refine JV.ald (p2 := 49) rfl rfl rfl ?_
  refine JV.ald (p2 := 50) rfl rfl rfl ?_
  refine JV.getf (p2 := 53) rfl (of_A hO (by omega)) rfl rfl ?_
  refine JV.putA6 (p2 := 56) rfl (by omega) rfl ?_
  refine JV.ald (p2 := 57) rfl rfl rfl ?_
  refine JV.ald (p2 := 58) rfl rfl rfl ?_
  refine JV.getf (p2 := 61) rfl (of_A hO (by omega)) rfl rfl ?_
  refine JV.putA7 (p2 := 64) rfl (by omega) rfl ?_
  refine JV.ald (p2 := 65) rfl rfl rfl ?_
  refine JV.ald (p2 := 66) rfl rfl rfl ?_
  refine JV.getf (p2 := 69) rfl (of_A hO (by omega)) rfl rfl ?_
  refine JV.putA8 (p2 := 72) rfl (by omega) rfl ?_
  refine JV.ald (p2 := 73) rfl rfl rfl ?_
  refine JV.ald (p2 := 74) rfl rfl rfl ?_
  refine JV.getf (p2 := 77) rfl (of_A hO (by omega)) rfl rfl ?_
  refine JV.putA9 (p2 := 80) rfl (by omega) rfl ?_
  subst hx
  exact JV.ret rfl (fun _ => rfl) rfl rfl
noncomputable def y_X3_copyFrom (m : Mem) (i : Nat) (mo : Mem) (k : Nat) : Mem := (up3 (up3 (up3 m 1 i 0 (mo 1 k 0)) 1 i 1 (mo 1 k 1)) 1 i 2 (mo 1 k 2))
theorem xe_X3_copyFrom : ∃ f, f = y_X3_copyFrom := ⟨y_X3_copyFrom, rfl⟩
noncomputable def x_X3_copyFrom := Classical.choose xe_X3_copyFrom
theorem x_X3_copyFrom_eq : x_X3_copyFrom = y_X3_copyFrom := Classical.choose_spec xe_X3_copyFrom
theorem ev_X3_copyFrom {d n c s b : Nat} {m : Mem} {M : JM} {i : Nat} {q : Nat} {mo : Mem} {k : Nat} {res : Mem} (hd : 1 ≤ d) (hi : i < 6) (h_k : k < 6) (hO : OF b q mo M) (hx : x_X3_copyFrom m i mo k = res) : Ev mtab mcode d 46 [.ref (b + 8 + i), .ref (q + 8 + k)] (n, c, s, fm b m M) (.inl none) (n, c, s, fm b res M) := by
  obtain ⟨d, rfl⟩ : ∃ e, d = e + 1 := ⟨d - 1, by omega⟩
  rw [x_X3_copyFrom_eq] at hx
  unfold y_X3_copyFrom at hx
  refine jv_mk (m := mX3_copyFrom) (cd := jcX3_copyFrom) rfl rfl (Nat.le_of_ble_eq_true rfl) trivial ?_
  refine JV.ald (p2 := 1) rfl rfl rfl ?_
  refine JV.ald (p2 := 2) rfl rfl rfl ?_
  refine JV.getf (p2 := 5) rfl (of_S hO (by omega)) rfl rfl ?_
  refine JV.putS0 (p2 := 8) rfl (by omega) rfl ?_
  refine JV.ald (p2 := 9) rfl rfl rfl ?_
  refine JV.ald (p2 := 10) rfl rfl rfl ?_
  refine JV.getf (p2 := 13) rfl (of_S hO (by omega)) rfl rfl ?_
  refine JV.putS1 (p2 := 16) rfl (by omega) rfl ?_
  refine JV.ald (p2 := 17) rfl rfl rfl ?_
  refine JV.ald (p2 := 18) rfl rfl rfl ?_
  refine JV.getf (p2 := 21) rfl (of_S hO (by omega)) rfl rfl ?_
  refine JV.putS2 (p2 := 24) rfl (by omega) rfl ?_
  subst hx
  exact JV.ret rfl (fun _ => rfl) rfl rfl
noncomputable def y_X5_copyFrom (m : Mem) (i : Nat) (mo : Mem) (k : Nat) : Mem := (up3 (up3 (up3 (up3 (up3 m 2 i 0 (mo 2 k 0)) 2 i 1 (mo 2 k 1)) 2 i 2 (mo 2 k 2)) 2 i 3 (mo 2 k 3)) 2 i 4 (mo 2 k 4))
theorem xe_X5_copyFrom : ∃ f, f = y_X5_copyFrom := ⟨y_X5_copyFrom, rfl⟩
noncomputable def x_X5_copyFrom := Classical.choose xe_X5_copyFrom
theorem x_X5_copyFrom_eq : x_X5_copyFrom = y_X5_copyFrom := Classical.choose_spec xe_X5_copyFrom
theorem ev_X5_copyFrom {d n c s b : Nat} {m : Mem} {M : JM} {i : Nat} {q : Nat} {mo : Mem} {k : Nat} {res : Mem} (hd : 1 ≤ d) (hi : i < 3) (h_k : k < 3) (hO : OF b q mo M) (hx : x_X5_copyFrom m i mo k = res) : Ev mtab mcode d 58 [.ref (b + 14 + i), .ref (q + 14 + k)] (n, c, s, fm b m M) (.inl none) (n, c, s, fm b res M) := by
  obtain ⟨d, rfl⟩ : ∃ e, d = e + 1 := ⟨d - 1, by omega⟩
  rw [x_X5_copyFrom_eq] at hx
  unfold y_X5_copyFrom at hx
  refine jv_mk (m := mX5_copyFrom) (cd := jcX5_copyFrom) rfl rfl (Nat.le_of_ble_eq_true rfl) trivial ?_
  refine JV.ald (p2 := 1) rfl rfl rfl ?_
  refine JV.ald (p2 := 2) rfl rfl rfl ?_
  refine JV.getf (p2 := 5) rfl (of_T hO (by omega)) rfl rfl ?_
  refine JV.putT0 (p2 := 8) rfl (by omega) rfl ?_
  refine JV.ald (p2 := 9) rfl rfl rfl ?_
  refine JV.ald (p2 := 10) rfl rfl rfl ?_
  refine JV.getf (p2 := 13) rfl (of_T hO (by omega)) rfl rfl ?_
  refine JV.putT1 (p2 := 16) rfl (by omega) rfl ?_
  refine JV.ald (p2 := 17) rfl rfl rfl ?_
  refine JV.ald (p2 := 18) rfl rfl rfl ?_
  refine JV.getf (p2 := 21) rfl (of_T hO (by omega)) rfl rfl ?_
  refine JV.putT2 (p2 := 24) rfl (by omega) rfl ?_
  refine JV.ald (p2 := 25) rfl rfl rfl ?_
  refine JV.ald (p2 := 26) rfl rfl rfl ?_
  refine JV.getf (p2 := 29) rfl (of_T hO (by omega)) rfl rfl ?_
  refine JV.putT3 (p2 := 32) rfl (by omega) rfl ?_
  refine JV.ald (p2 := 33) rfl rfl rfl ?_
  refine JV.ald (p2 := 34) rfl rfl rfl ?_
  refine JV.getf (p2 := 37) rfl (of_T hO (by omega)) rfl rfl ?_
  refine JV.putT4 (p2 := 40) rfl (by omega) rfl ?_
  subst hx
  exact JV.ret rfl (fun _ => rfl) rfl rfl
section CPS
variable {m mo : Mem} {i k f z : Nat}
theorem cp_Sf (h : f ≠ 1) : x_X3_copyFrom m i mo k f = m f := by
  rw [x_X3_copyFrom_eq]
  unfold y_X3_copyFrom
  rw [up3_fam h, up3_fam h, up3_fam h]
theorem cp_Tf (h : f ≠ 2) : x_X5_copyFrom m i mo k f = m f := by
  rw [x_X5_copyFrom_eq]
  unfold y_X5_copyFrom
  rw [up3_fam h, up3_fam h, up3_fam h, up3_fam h, up3_fam h]
theorem cp_Af (h : f ≠ 3) : x_X0_copyFrom m i mo k f = m f := by
  rw [x_X0_copyFrom_eq]
  unfold y_X0_copyFrom
  rw [up3_fam h, up3_fam h, up3_fam h, up3_fam h, up3_fam h, up3_fam h, up3_fam h, up3_fam h, up3_fam h, up3_fam h]
theorem cp_S : x_X3_copyFrom m i mo k 0 0 z = m 0 0 z := congrFun (congrFun (cp_Sf (by decide)) 0) z
theorem cp_T : x_X5_copyFrom m i mo k 0 0 z = m 0 0 z := congrFun (congrFun (cp_Tf (by decide)) 0) z
theorem cp_A : x_X0_copyFrom m i mo k 0 0 z = m 0 0 z := congrFun (congrFun (cp_Af (by decide)) 0) z
theorem cp_0 : ∀ z, z < 3 → (up3 (up3 (up3 (up3 (up3 (up3 m 0 0 0 (mo 0 0 0)) 0 0 1 (mo 0 0 1)) 0 0 2 (mo 0 0 2)) 0 0 3 (mo 0 0 3)) 0 0 4 (mo 0 0 4)) 0 0 5 (mo 0 0 5)) 0 0 z = mo 0 0 z := fun z hz => match z, hz with
  | 0, _ => rfl
  | 1, _ => rfl
  | 2, _ => rfl
end CPS
noncomputable def bd_X1_copyFrom_50 (mo : Mem) (j : Nat) (m : Mem) : Mem := (x_X3_copyFrom m j mo j)
noncomputable def ly_X1_copyFrom_50 (mo : Mem) (N : Nat) (m : Mem) : Mem := itr (fun jz s => bd_X1_copyFrom_50 mo jz s) N 0 m
theorem le_X1_copyFrom_50 : ∃ f, f = ly_X1_copyFrom_50 := ⟨ly_X1_copyFrom_50, rfl⟩
noncomputable def lf_X1_copyFrom_50 := Classical.choose le_X1_copyFrom_50
theorem lf_X1_copyFrom_50_eq : lf_X1_copyFrom_50 = ly_X1_copyFrom_50 := Classical.choose_spec le_X1_copyFrom_50
theorem fb_X1_copyFrom_50 {mo : Mem} {j : Nat} {m : Mem} (hjN : j < 6) (hcz : ∀ z, z < 3 → m 0 0 z = mo 0 0 z) : (∀ z, z < 3 → (bd_X1_copyFrom_50 mo j m) 0 0 z = mo 0 0 z) := by
  unfold bd_X1_copyFrom_50
  exact (fun z hz => (cp_S).trans (hcz z hz))
theorem fl_X1_copyFrom_50 {mo : Mem} {N : Nat} {m : Mem} (hNc : N ≤ 6) (hcz : ∀ z, z < 3 → m 0 0 z = mo 0 0 z) : (∀ z, z < 3 → (lf_X1_copyFrom_50 mo N m) 0 0 z = mo 0 0 z) := by
  rw [lf_X1_copyFrom_50_eq]
  unfold ly_X1_copyFrom_50
  exact itr_inv (n := N) (s := m) (P := fun jz s => (∀ z, z < 3 → s 0 0 z = mo 0 0 z)) (fun jz s => bd_X1_copyFrom_50 mo jz s) (fun jz s hj hs => fb_X1_copyFrom_50 (j := jz) (m := s) (by omega) hs) hcz
theorem lp_X1_copyFrom_50 {d n c s b : Nat} {M : JM} {o : JO} {hf : JH} {mo : Mem} {q : Nat} {N : Nat} (hd : 1 ≤ d) (hO : OF b q mo M) (hNc : N ≤ 6) : ∀ (k j : Nat) (m : Mem), j + k = N → m 0 0 0 = nI N → (∀ z, z < 3 → m 0 0 z = mo 0 0 z) → JV (Ev mtab mcode d) jcX1_copyFrom (79, [(0, .ref b), (1, .ref q)], []) (n, c, s, fm b (itr (fun jz s => bd_X1_copyFrom_50 mo jz s) k j m) M) o hf → JV (Ev mtab mcode d) jcX1_copyFrom (50, [(0, .ref b), (1, .ref q), (2, .int (nI j))], []) (n, c, s, fm b m M) o hf := by
  intro k
  induction k with
  | zero =>
    intro j m hj hN hcz hc
    refine JV.ild (p2 := 51) rfl rfl rfl ?_
    refine JV.ald (p2 := 52) rfl rfl rfl ?_
    refine JV.getF0 (p2 := 55) rfl rfl ?_
    refine JV.brT rfl rfl (by rw [hN]; exact nI_le (a := N) (b := j) (by omega) (by omega)) ?_
    exact JV.keep [0, 1] rfl hc
  | succ k ih =>
    intro j m hj hN hcz hc
    obtain ⟨s1, hx⟩ : ∃ s1, bd_X1_copyFrom_50 mo j m = s1 := ⟨_, rfl⟩
    have hc2 : JV (Ev mtab mcode d) jcX1_copyFrom (79, [(0, .ref b), (1, .ref q)], []) (n, c, s, fm b (itr (fun jz s => bd_X1_copyFrom_50 mo jz s) k (j + 1) s1) M) o hf := by
      subst hx
      exact hc
    clear hc
    have iv := fb_X1_copyFrom_50 (mo := mo) (j := j) (m := m) (by omega) hcz
    rw [hx] at iv
    unfold bd_X1_copyFrom_50 at hx
    refine JV.ild (p2 := 51) rfl rfl rfl ?_
    refine JV.ald (p2 := 52) rfl rfl rfl ?_
    refine JV.getF0 (p2 := 55) rfl rfl ?_
    refine JV.brF (p2 := 58) rfl rfl rfl (by rw [hN]; exact nI_ge (a := j) (b := N) (by omega) (by omega)) ?_
    refine JV.ald (p2 := 59) rfl rfl rfl ?_
    refine JV.getFr0 (p2 := 62) rfl rfl ?_
    refine JV.ild (p2 := 63) rfl rfl rfl ?_
    refine JV.elS (p2 := 64) rfl rfl (by omega) rfl ?_
    refine JV.ald (p2 := 65) rfl rfl rfl ?_
    refine JV.getf (p2 := 68) rfl (of_F hO) rfl rfl ?_
    refine JV.ild (p2 := 69) rfl rfl rfl ?_
    refine JV.aald (p2 := 70) rfl (of_FS hO) rfl (by omega) (by decide) (if_pos (by omega)) rfl ?_
    refine JV.inv0 (p2 := 73) rfl rfl rfl (fm_S (by omega)) (Nat.le_of_ble_eq_true rfl) rfl (ev_X3_copyFrom (by omega) (by omega) (by omega) hO rfl) ?_
    refine JV.iinc (p2 := 76) rfl rfl (nI_1 _) rfl rfl ?_
    refine JV.goto rfl ?_
    subst hx
    exact ih (j + 1) _ (by omega) ((cp_S).trans hN) iv hc2
theorem lq_X1_copyFrom_50 {d n c s b : Nat} {M : JM} {o : JO} {hf : JH} {mo : Mem} {q : Nat} {N : Nat} {m : Mem} (hd : 1 ≤ d) (hO : OF b q mo M) (hNc : N ≤ 6) (hN : m 0 0 0 = nI N) (hcz : ∀ z, z < 3 → m 0 0 z = mo 0 0 z) (hc : JV (Ev mtab mcode d) jcX1_copyFrom (79, [(0, .ref b), (1, .ref q)], []) (n, c, s, fm b (lf_X1_copyFrom_50 mo N m) M) o hf) : JV (Ev mtab mcode d) jcX1_copyFrom (50, [(0, .ref b), (1, .ref q), (2, .int 0)], []) (n, c, s, fm b m M) o hf := by
  rw [lf_X1_copyFrom_50_eq] at hc
  unfold ly_X1_copyFrom_50 at hc
  exact lp_X1_copyFrom_50 hd hO hNc N 0 m (by omega) hN hcz hc
noncomputable def bd_X1_copyFrom_81 (mo : Mem) (j : Nat) (m : Mem) : Mem := (x_X5_copyFrom m j mo j)
noncomputable def ly_X1_copyFrom_81 (mo : Mem) (N : Nat) (m : Mem) : Mem := itr (fun jz s => bd_X1_copyFrom_81 mo jz s) N 0 m
theorem le_X1_copyFrom_81 : ∃ f, f = ly_X1_copyFrom_81 := ⟨ly_X1_copyFrom_81, rfl⟩
noncomputable def lf_X1_copyFrom_81 := Classical.choose le_X1_copyFrom_81
theorem lf_X1_copyFrom_81_eq : lf_X1_copyFrom_81 = ly_X1_copyFrom_81 := Classical.choose_spec le_X1_copyFrom_81
theorem fb_X1_copyFrom_81 {mo : Mem} {j : Nat} {m : Mem} (hjN : j < 3) (hcz : ∀ z, z < 3 → m 0 0 z = mo 0 0 z) : (∀ z, z < 3 → (bd_X1_copyFrom_81 mo j m) 0 0 z = mo 0 0 z) := by
  unfold bd_X1_copyFrom_81
  exact (fun z hz => (cp_T).trans (hcz z hz))
theorem fl_X1_copyFrom_81 {mo : Mem} {N : Nat} {m : Mem} (hNc : N ≤ 3) (hcz : ∀ z, z < 3 → m 0 0 z = mo 0 0 z) : (∀ z, z < 3 → (lf_X1_copyFrom_81 mo N m) 0 0 z = mo 0 0 z) := by
  rw [lf_X1_copyFrom_81_eq]
  unfold ly_X1_copyFrom_81
  exact itr_inv (n := N) (s := m) (P := fun jz s => (∀ z, z < 3 → s 0 0 z = mo 0 0 z)) (fun jz s => bd_X1_copyFrom_81 mo jz s) (fun jz s hj hs => fb_X1_copyFrom_81 (j := jz) (m := s) (by omega) hs) hcz
theorem lp_X1_copyFrom_81 {d n c s b : Nat} {M : JM} {o : JO} {hf : JH} {mo : Mem} {q : Nat} {N : Nat} (hd : 1 ≤ d) (hO : OF b q mo M) (hNc : N ≤ 3) : ∀ (k j : Nat) (m : Mem), j + k = N → m 0 0 1 = nI N → (∀ z, z < 3 → m 0 0 z = mo 0 0 z) → JV (Ev mtab mcode d) jcX1_copyFrom (110, [(0, .ref b), (1, .ref q)], []) (n, c, s, fm b (itr (fun jz s => bd_X1_copyFrom_81 mo jz s) k j m) M) o hf → JV (Ev mtab mcode d) jcX1_copyFrom (81, [(0, .ref b), (1, .ref q), (2, .int (nI j))], []) (n, c, s, fm b m M) o hf := by
  intro k
  induction k with
  | zero =>
    intro j m hj hN hcz hc
    refine JV.ild (p2 := 82) rfl rfl rfl ?_
    refine JV.ald (p2 := 83) rfl rfl rfl ?_
    refine JV.getF1 (p2 := 86) rfl rfl ?_
    refine JV.brT rfl rfl (by rw [hN]; exact nI_le (a := N) (b := j) (by omega) (by omega)) ?_
    exact JV.keep [0, 1] rfl hc
  | succ k ih =>
    intro j m hj hN hcz hc
    obtain ⟨s1, hx⟩ : ∃ s1, bd_X1_copyFrom_81 mo j m = s1 := ⟨_, rfl⟩
    have hc2 : JV (Ev mtab mcode d) jcX1_copyFrom (110, [(0, .ref b), (1, .ref q)], []) (n, c, s, fm b (itr (fun jz s => bd_X1_copyFrom_81 mo jz s) k (j + 1) s1) M) o hf := by
      subst hx
      exact hc
    clear hc
    have iv := fb_X1_copyFrom_81 (mo := mo) (j := j) (m := m) (by omega) hcz
    rw [hx] at iv
    unfold bd_X1_copyFrom_81 at hx
    refine JV.ild (p2 := 82) rfl rfl rfl ?_
    refine JV.ald (p2 := 83) rfl rfl rfl ?_
    refine JV.getF1 (p2 := 86) rfl rfl ?_
    refine JV.brF (p2 := 89) rfl rfl rfl (by rw [hN]; exact nI_ge (a := j) (b := N) (by omega) (by omega)) ?_
    refine JV.ald (p2 := 90) rfl rfl rfl ?_
    refine JV.getFr1 (p2 := 93) rfl rfl ?_
    refine JV.ild (p2 := 94) rfl rfl rfl ?_
    refine JV.elT (p2 := 95) rfl rfl (by omega) rfl ?_
    refine JV.ald (p2 := 96) rfl rfl rfl ?_
    refine JV.getf (p2 := 99) rfl (of_F hO) rfl rfl ?_
    refine JV.ild (p2 := 100) rfl rfl rfl ?_
    refine JV.aald (p2 := 101) rfl (of_FT hO) rfl (by omega) (by decide) (if_pos (by omega)) rfl ?_
    refine JV.inv0 (p2 := 104) rfl rfl rfl (fm_T (by omega)) (Nat.le_of_ble_eq_true rfl) rfl (ev_X5_copyFrom (by omega) (by omega) (by omega) hO rfl) ?_
    refine JV.iinc (p2 := 107) rfl rfl (nI_1 _) rfl rfl ?_
    refine JV.goto rfl ?_
    subst hx
    exact ih (j + 1) _ (by omega) ((cp_T).trans hN) iv hc2
theorem lq_X1_copyFrom_81 {d n c s b : Nat} {M : JM} {o : JO} {hf : JH} {mo : Mem} {q : Nat} {N : Nat} {m : Mem} (hd : 1 ≤ d) (hO : OF b q mo M) (hNc : N ≤ 3) (hN : m 0 0 1 = nI N) (hcz : ∀ z, z < 3 → m 0 0 z = mo 0 0 z) (hc : JV (Ev mtab mcode d) jcX1_copyFrom (110, [(0, .ref b), (1, .ref q)], []) (n, c, s, fm b (lf_X1_copyFrom_81 mo N m) M) o hf) : JV (Ev mtab mcode d) jcX1_copyFrom (81, [(0, .ref b), (1, .ref q), (2, .int 0)], []) (n, c, s, fm b m M) o hf := by
  rw [lf_X1_copyFrom_81_eq] at hc
  unfold ly_X1_copyFrom_81 at hc
  exact lp_X1_copyFrom_81 hd hO hNc N 0 m (by omega) hN hcz hc
noncomputable def bd_X1_copyFrom_112 (mo : Mem) (j : Nat) (m : Mem) : Mem := (x_X0_copyFrom m j mo j)
noncomputable def ly_X1_copyFrom_112 (mo : Mem) (N : Nat) (m : Mem) : Mem := itr (fun jz s => bd_X1_copyFrom_112 mo jz s) N 0 m
theorem le_X1_copyFrom_112 : ∃ f, f = ly_X1_copyFrom_112 := ⟨ly_X1_copyFrom_112, rfl⟩
noncomputable def lf_X1_copyFrom_112 := Classical.choose le_X1_copyFrom_112
theorem lf_X1_copyFrom_112_eq : lf_X1_copyFrom_112 = ly_X1_copyFrom_112 := Classical.choose_spec le_X1_copyFrom_112
theorem fb_X1_copyFrom_112 {mo : Mem} {j : Nat} {m : Mem} (hjN : j < 12) (hcz : ∀ z, z < 3 → m 0 0 z = mo 0 0 z) : (∀ z, z < 3 → (bd_X1_copyFrom_112 mo j m) 0 0 z = mo 0 0 z) := by
  unfold bd_X1_copyFrom_112
  exact (fun z hz => (cp_A).trans (hcz z hz))
theorem fl_X1_copyFrom_112 {mo : Mem} {N : Nat} {m : Mem} (hNc : N ≤ 12) (hcz : ∀ z, z < 3 → m 0 0 z = mo 0 0 z) : (∀ z, z < 3 → (lf_X1_copyFrom_112 mo N m) 0 0 z = mo 0 0 z) := by
  rw [lf_X1_copyFrom_112_eq]
  unfold ly_X1_copyFrom_112
  exact itr_inv (n := N) (s := m) (P := fun jz s => (∀ z, z < 3 → s 0 0 z = mo 0 0 z)) (fun jz s => bd_X1_copyFrom_112 mo jz s) (fun jz s hj hs => fb_X1_copyFrom_112 (j := jz) (m := s) (by omega) hs) hcz
theorem lp_X1_copyFrom_112 {d n c s b : Nat} {M : JM} {o : JO} {hf : JH} {mo : Mem} {q : Nat} {N : Nat} (hd : 1 ≤ d) (hO : OF b q mo M) (hNc : N ≤ 12) : ∀ (k j : Nat) (m : Mem), j + k = N → m 0 0 2 = nI N → (∀ z, z < 3 → m 0 0 z = mo 0 0 z) → JV (Ev mtab mcode d) jcX1_copyFrom (141, [(0, .ref b), (1, .ref q)], []) (n, c, s, fm b (itr (fun jz s => bd_X1_copyFrom_112 mo jz s) k j m) M) o hf → JV (Ev mtab mcode d) jcX1_copyFrom (112, [(0, .ref b), (1, .ref q), (2, .int (nI j))], []) (n, c, s, fm b m M) o hf := by
  intro k
  induction k with
  | zero =>
    intro j m hj hN hcz hc
    refine JV.ild (p2 := 113) rfl rfl rfl ?_
    refine JV.ald (p2 := 114) rfl rfl rfl ?_
    refine JV.getF2 (p2 := 117) rfl rfl ?_
    refine JV.brT rfl rfl (by rw [hN]; exact nI_le (a := N) (b := j) (by omega) (by omega)) ?_
    exact JV.keep [0, 1] rfl hc
  | succ k ih =>
    intro j m hj hN hcz hc
    obtain ⟨s1, hx⟩ : ∃ s1, bd_X1_copyFrom_112 mo j m = s1 := ⟨_, rfl⟩
    have hc2 : JV (Ev mtab mcode d) jcX1_copyFrom (141, [(0, .ref b), (1, .ref q)], []) (n, c, s, fm b (itr (fun jz s => bd_X1_copyFrom_112 mo jz s) k (j + 1) s1) M) o hf := by
      subst hx
      exact hc
    clear hc
    have iv := fb_X1_copyFrom_112 (mo := mo) (j := j) (m := m) (by omega) hcz
    rw [hx] at iv
    unfold bd_X1_copyFrom_112 at hx
    refine JV.ild (p2 := 113) rfl rfl rfl ?_
    refine JV.ald (p2 := 114) rfl rfl rfl ?_
    refine JV.getF2 (p2 := 117) rfl rfl ?_
    refine JV.brF (p2 := 120) rfl rfl rfl (by rw [hN]; exact nI_ge (a := j) (b := N) (by omega) (by omega)) ?_
    refine JV.ald (p2 := 121) rfl rfl rfl ?_
    refine JV.getFr2 (p2 := 124) rfl rfl ?_
    refine JV.ild (p2 := 125) rfl rfl rfl ?_
    refine JV.elA (p2 := 126) rfl rfl (by omega) rfl ?_
    refine JV.ald (p2 := 127) rfl rfl rfl ?_
    refine JV.getf (p2 := 130) rfl (of_F hO) rfl rfl ?_
    refine JV.ild (p2 := 131) rfl rfl rfl ?_
    refine JV.aald (p2 := 132) rfl (of_FA hO) rfl (by omega) (by decide) (if_pos (by omega)) rfl ?_
    refine JV.inv0 (p2 := 135) rfl rfl rfl (fm_A (by omega)) (Nat.le_of_ble_eq_true rfl) rfl (ev_X0_copyFrom (by omega) (by omega) (by omega) hO rfl) ?_
    refine JV.iinc (p2 := 138) rfl rfl (nI_1 _) rfl rfl ?_
    refine JV.goto rfl ?_
    subst hx
    exact ih (j + 1) _ (by omega) ((cp_A).trans hN) iv hc2
theorem lq_X1_copyFrom_112 {d n c s b : Nat} {M : JM} {o : JO} {hf : JH} {mo : Mem} {q : Nat} {N : Nat} {m : Mem} (hd : 1 ≤ d) (hO : OF b q mo M) (hNc : N ≤ 12) (hN : m 0 0 2 = nI N) (hcz : ∀ z, z < 3 → m 0 0 z = mo 0 0 z) (hc : JV (Ev mtab mcode d) jcX1_copyFrom (141, [(0, .ref b), (1, .ref q)], []) (n, c, s, fm b (lf_X1_copyFrom_112 mo N m) M) o hf) : JV (Ev mtab mcode d) jcX1_copyFrom (112, [(0, .ref b), (1, .ref q), (2, .int 0)], []) (n, c, s, fm b m M) o hf := by
  rw [lf_X1_copyFrom_112_eq] at hc
  unfold ly_X1_copyFrom_112 at hc
  exact lp_X1_copyFrom_112 hd hO hNc N 0 m (by omega) hN hcz hc
noncomputable def y_X1_copyFrom (m : Mem) (mo : Mem) : Mem := (x_X2_copyFrom (lf_X1_copyFrom_112 mo (ix (mo 0 0 2)) (lf_X1_copyFrom_81 mo (ix (mo 0 0 1)) (lf_X1_copyFrom_50 mo (ix (mo 0 0 0)) (up3 (up3 (up3 (up3 (up3 (up3 m 0 0 0 (mo 0 0 0)) 0 0 1 (mo 0 0 1)) 0 0 2 (mo 0 0 2)) 0 0 3 (mo 0 0 3)) 0 0 4 (mo 0 0 4)) 0 0 5 (mo 0 0 5))))) mo)
theorem xe_X1_copyFrom : ∃ f, f = y_X1_copyFrom := ⟨y_X1_copyFrom, rfl⟩
noncomputable def x_X1_copyFrom := Classical.choose xe_X1_copyFrom
theorem x_X1_copyFrom_eq : x_X1_copyFrom = y_X1_copyFrom := Classical.choose_spec xe_X1_copyFrom
theorem ev_X1_copyFrom {d n c s b : Nat} {m : Mem} {M : JM} {q : Nat} {mo : Mem} {res : Mem} (hd : 2 ≤ d) (hFo : FK mo) (hO : OF b q mo M) (hx : x_X1_copyFrom m mo = res) : Ev mtab mcode d 9 [.ref b, .ref q] (n, c, s, fm b m M) (.inl none) (n, c, s, fm b res M) := by
  obtain ⟨d, rfl⟩ : ∃ e, d = e + 1 := ⟨d - 1, by omega⟩
  rw [x_X1_copyFrom_eq] at hx
  unfold y_X1_copyFrom at hx
  refine jv_mk (m := mX1_copyFrom) (cd := jcX1_copyFrom) rfl rfl (Nat.le_of_ble_eq_true rfl) trivial ?_
  refine JV.ald (p2 := 1) rfl rfl rfl ?_
  refine JV.ald (p2 := 2) rfl rfl rfl ?_
  refine JV.getf (p2 := 5) rfl (of_F hO) rfl rfl ?_
  refine JV.putF0 (p2 := 8) rfl rfl ?_
  refine JV.ald (p2 := 9) rfl rfl rfl ?_
  refine JV.ald (p2 := 10) rfl rfl rfl ?_
  refine JV.getf (p2 := 13) rfl (of_F hO) rfl rfl ?_
  refine JV.putF1 (p2 := 16) rfl rfl ?_
  refine JV.ald (p2 := 17) rfl rfl rfl ?_
  refine JV.ald (p2 := 18) rfl rfl rfl ?_
  refine JV.getf (p2 := 21) rfl (of_F hO) rfl rfl ?_
  refine JV.putF2 (p2 := 24) rfl rfl ?_
  refine JV.ald (p2 := 25) rfl rfl rfl ?_
  refine JV.ald (p2 := 26) rfl rfl rfl ?_
  refine JV.getf (p2 := 29) rfl (of_F hO) rfl rfl ?_
  refine JV.putF3 (p2 := 32) rfl rfl ?_
  refine JV.ald (p2 := 33) rfl rfl rfl ?_
  refine JV.ald (p2 := 34) rfl rfl rfl ?_
  refine JV.getf (p2 := 37) rfl (of_F hO) rfl rfl ?_
  refine JV.putF4 (p2 := 40) rfl rfl ?_
  refine JV.ald (p2 := 41) rfl rfl rfl ?_
  refine JV.ald (p2 := 42) rfl rfl rfl ?_
  refine JV.getf (p2 := 45) rfl (of_F hO) rfl rfl ?_
  refine JV.putF5 (p2 := 48) rfl rfl ?_
  refine JV.stk (len := 1) (sem := (s_push (.int 0))) (p2 := 49) rfl rfl rfl ?_
  refine JV.ist (p2 := 50) rfl rfl rfl ?_
  refine lq_X1_copyFrom_50 (m := (up3 (up3 (up3 (up3 (up3 (up3 m 0 0 0 (mo 0 0 0)) 0 0 1 (mo 0 0 1)) 0 0 2 (mo 0 0 2)) 0 0 3 (mo 0 0 3)) 0 0 4 (mo 0 0 4)) 0 0 5 (mo 0 0 5))) (N := (ix (mo 0 0 0))) (mo := mo) (by omega) hO hFo.ns.2 hFo.ns.1 cp_0 ?_
  have f50 := fl_X1_copyFrom_50 (mo := mo) hFo.ns.2 (cp_0 (m := m) (mo := mo))
  refine JV.stk (len := 1) (sem := (s_push (.int 0))) (p2 := 80) rfl rfl rfl ?_
  refine JV.ist (p2 := 81) rfl rfl rfl ?_
  refine lq_X1_copyFrom_81 (m := (lf_X1_copyFrom_50 mo (ix (mo 0 0 0)) (up3 (up3 (up3 (up3 (up3 (up3 m 0 0 0 (mo 0 0 0)) 0 0 1 (mo 0 0 1)) 0 0 2 (mo 0 0 2)) 0 0 3 (mo 0 0 3)) 0 0 4 (mo 0 0 4)) 0 0 5 (mo 0 0 5)))) (N := (ix (mo 0 0 1))) (mo := mo) (by omega) hO hFo.nt.2 ((f50 1 (by decide)).trans hFo.nt.1) f50 ?_
  have f81 := fl_X1_copyFrom_81 (mo := mo) hFo.nt.2 f50
  refine JV.stk (len := 1) (sem := (s_push (.int 0))) (p2 := 111) rfl rfl rfl ?_
  refine JV.ist (p2 := 112) rfl rfl rfl ?_
  refine lq_X1_copyFrom_112 (m := (lf_X1_copyFrom_81 mo (ix (mo 0 0 1)) (lf_X1_copyFrom_50 mo (ix (mo 0 0 0)) (up3 (up3 (up3 (up3 (up3 (up3 m 0 0 0 (mo 0 0 0)) 0 0 1 (mo 0 0 1)) 0 0 2 (mo 0 0 2)) 0 0 3 (mo 0 0 3)) 0 0 4 (mo 0 0 4)) 0 0 5 (mo 0 0 5))))) (N := (ix (mo 0 0 2))) (mo := mo) (by omega) hO hFo.na.2 ((f81 2 (by decide)).trans hFo.na.1) f81 ?_
  refine JV.ald (p2 := 142) rfl rfl rfl ?_
  refine JV.getFr3 (p2 := 145) rfl rfl ?_
  refine JV.ald (p2 := 146) rfl rfl rfl ?_
  refine JV.getf (p2 := 149) rfl (of_F hO) rfl rfl ?_
  refine JV.inv0 (p2 := 152) rfl rfl rfl fm_L (Nat.le_of_ble_eq_true rfl) rfl (ev_X2_copyFrom (by omega) hO rfl) ?_
  subst hx
  exact JV.ret rfl (fun _ => rfl) rfl rfl
