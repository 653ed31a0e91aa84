theorem VX_nI {k j : Nat} (h : j < k) (hk : k < 2 ^ 31) : VX k (nI j) := Or.inr ⟨by rw [ix_nI (by omega)], by rw [ix_nI (by omega)]; exact h⟩
theorem itr_inv {S : Type} {P : Nat → S → Prop} {n : Nat} {s : S} (f : Nat → S → S) (h : ∀ j s, j < n → P j s → P (j + 1) (f j s)) (h0 : P 0 s) : P n (itr f n 0 s) := by
  have g : ∀ k j s, j + k = n → P j s → P n (itr f k j s) := by
    intro k
    induction k with
    | zero =>
      intro j s e p
      have : j = n := by omega
      subst this
      exact p
    | succ k ih =>
      intro j s e p
      exact ih (j + 1) (f j s) (by omega) (h j s (by omega) p)
  exact g n 0 s (by omega) h0
noncomputable def bd_X1_freeStandFor_4 (m : Mem) (w1 : Int32) (j : Nat) (c2 : Int32) : Int32 := (if (m 1 j 1) = (-1) then (if (m 1 j 0) < w1 then c2 else (if c2 = (-1) then (nI j) else (if (m 1 j 0) < (m 1 (ix c2) 0) then (nI j) else c2))) else c2)
noncomputable def ly_X1_freeStandFor_4 (m : Mem) (w1 : Int32) (N : Nat) (c2 : Int32) : Int32 := itr (fun jz s => bd_X1_freeStandFor_4 m w1 jz s) N 0 c2
theorem le_X1_freeStandFor_4 : ∃ f, f = ly_X1_freeStandFor_4 := ⟨ly_X1_freeStandFor_4, rfl⟩
noncomputable def lf_X1_freeStandFor_4 := Classical.choose le_X1_freeStandFor_4
theorem lf_X1_freeStandFor_4_eq : lf_X1_freeStandFor_4 = ly_X1_freeStandFor_4 := Classical.choose_spec le_X1_freeStandFor_4
theorem fb_X1_freeStandFor_4 {m : Mem} {w1 : Int32} {j : Nat} {c2 : Int32} (hjN : j < 6) (hb : VX 6 c2) : (VX 6 (bd_X1_freeStandFor_4 m w1 j c2)) := by
  unfold bd_X1_freeStandFor_4
  by_cases h22 : (m 1 j 1) = (-1)
  · rw [if_pos h22]
    by_cases h35 : (m 1 j 0) < w1
    · rw [if_pos h35]
      exact (by first | assumption | exact VX_nI (by omega) (by decide))
    · rw [if_neg h35]
      by_cases h40 : c2 = (-1)
      · rw [if_pos h40]
        exact (by first | assumption | exact VX_nI (by omega) (by decide))
      · rw [if_neg h40]
        have b57 : ix c2 < 6 := VX.lt hb h40
        by_cases h61 : (m 1 j 0) < (m 1 (ix c2) 0)
        · rw [if_pos h61]
          exact (by first | assumption | exact VX_nI (by omega) (by decide))
        · rw [if_neg h61]
          exact (by first | assumption | exact VX_nI (by omega) (by decide))
  · rw [if_neg h22]
    exact (by first | assumption | exact VX_nI (by omega) (by decide))
theorem fl_X1_freeStandFor_4 {m : Mem} {w1 : Int32} {N : Nat} {c2 : Int32} (hNc : N ≤ 6) (hb : VX 6 c2) : (VX 6 (lf_X1_freeStandFor_4 m w1 N c2)) := by
  rw [lf_X1_freeStandFor_4_eq]
  unfold ly_X1_freeStandFor_4
  exact itr_inv (n := N) (s := c2) (P := fun jz s => (VX 6 s)) (fun jz s => bd_X1_freeStandFor_4 m w1 jz s) (fun jz s hj hs => fb_X1_freeStandFor_4 (j := jz) (c2 := s) (by omega) hs) hb
theorem lp_X1_freeStandFor_4 {d n c s b : Nat} {M : JM} {o : JO} {hf : JH} {m : Mem} {w1 : Int32} {N : Nat} (hd : 0 ≤ d) (hNc : N ≤ 6) (hN : m 0 0 0 = nI N) : ∀ (k j : Nat) (c2 : Int32), j + k = N → (VX 6 c2) → JV (Ev mtab mcode d) jcX1_freeStandFor (72, [(0, .ref b), (1, .int w1), (2, .int (itr (fun jz s => bd_X1_freeStandFor_4 m w1 jz s) k j c2))], []) (n, c, s, fm b m M) o hf → JV (Ev mtab mcode d) jcX1_freeStandFor (4, [(0, .ref b), (1, .int w1), (2, .int c2), (3, .int (nI j))], []) (n, c, s, fm b m M) o hf := by
  intro k
  induction k with
  | zero =>
    intro j c2 hj hb hc
    refine JV.ild (p2 := 5) rfl rfl rfl ?_
    refine JV.ald (p2 := 6) rfl rfl rfl ?_
    refine JV.getF0 (p2 := 9) rfl rfl ?_
    refine JV.brT rfl rfl (by rw [hN]; exact nI_le (a := N) (b := j) (by omega) (by omega)) ?_
    exact JV.keep [0, 1, 2] rfl hc
  | succ k ih =>
    intro j c2 hj hb hc
    obtain ⟨s1, hx⟩ : ∃ s1, bd_X1_freeStandFor_4 m w1 j c2 = s1 := ⟨_, rfl⟩
    have hc2 : JV (Ev mtab mcode d) jcX1_freeStandFor (72, [(0, .ref b), (1, .int w1), (2, .int (itr (fun jz s => bd_X1_freeStandFor_4 m w1 jz s) k (j + 1) s1))], []) (n, c, s, fm b m M) o hf := by
      subst hx
      exact hc
    clear hc
    have iv := fb_X1_freeStandFor_4 (m := m) (w1 := w1) (j := j) (c2 := c2) (by omega) hb
    rw [hx] at iv
    unfold bd_X1_freeStandFor_4 at hx
    refine JV.ild (p2 := 5) rfl rfl rfl ?_
    refine JV.ald (p2 := 6) rfl rfl rfl ?_
    refine JV.getF0 (p2 := 9) rfl rfl ?_
    refine JV.brF (p2 := 12) rfl rfl rfl (by rw [hN]; exact nI_ge (a := j) (b := N) (by omega) (by omega)) ?_
    refine JV.ald (p2 := 13) rfl rfl rfl ?_
    refine JV.getFr0 (p2 := 16) rfl rfl ?_
    refine JV.ild (p2 := 17) rfl rfl rfl ?_
    refine JV.elS (p2 := 18) rfl rfl (by omega) rfl ?_
    refine JV.getS1 (p2 := 21) rfl (by omega) rfl ?_
    refine JV.stk (len := 1) (sem := (s_push (.int (-1)))) (p2 := 22) rfl rfl rfl ?_
    by_cases h22 : (m 1 j 1) = (-1)
    · rw [if_pos h22] at hx
      refine JV.brF (p2 := 25) rfl rfl rfl (fun e => e h22) ?_
      refine JV.ald (p2 := 26) rfl rfl rfl ?_
      refine JV.getFr0 (p2 := 29) rfl rfl ?_
      refine JV.ild (p2 := 30) rfl rfl rfl ?_
      refine JV.elS (p2 := 31) rfl rfl (by omega) rfl ?_
      refine JV.getS0 (p2 := 34) rfl (by omega) rfl ?_
      refine JV.ild (p2 := 35) rfl rfl rfl ?_
      by_cases h35 : (m 1 j 0) < w1
      · rw [if_pos h35] at hx
        refine JV.brT rfl rfl h35 ?_
        refine JV.iinc (p2 := 69) rfl rfl (nI_1 _) rfl rfl ?_
        refine JV.goto rfl ?_
        subst hx
        exact ih (j + 1) _ (by omega) iv hc2
      · rw [if_neg h35] at hx
        refine JV.brF (p2 := 38) rfl rfl rfl h35 ?_
        refine JV.ild (p2 := 39) rfl rfl rfl ?_
        refine JV.stk (len := 1) (sem := (s_push (.int (-1)))) (p2 := 40) rfl rfl rfl ?_
        by_cases h40 : c2 = (-1)
        · rw [if_pos h40] at hx
          refine JV.brT rfl rfl h40 ?_
          refine JV.ild (p2 := 65) rfl rfl rfl ?_
          refine JV.ist (p2 := 66) rfl rfl rfl ?_
          refine JV.iinc (p2 := 69) rfl rfl (nI_1 _) rfl rfl ?_
          refine JV.goto rfl ?_
          subst hx
          exact ih (j + 1) _ (by omega) iv hc2
        · rw [if_neg h40] at hx
          refine JV.brF (p2 := 43) rfl rfl rfl h40 ?_
          refine JV.ald (p2 := 44) rfl rfl rfl ?_
          refine JV.getFr0 (p2 := 47) rfl rfl ?_
          refine JV.ild (p2 := 48) rfl rfl rfl ?_
          refine JV.elS (p2 := 49) rfl rfl (by omega) rfl ?_
          refine JV.getS0 (p2 := 52) rfl (by omega) rfl ?_
          refine JV.ald (p2 := 53) rfl rfl rfl ?_
          refine JV.getFr0 (p2 := 56) rfl rfl ?_
          refine JV.ild (p2 := 57) rfl rfl rfl ?_
          have b57 : ix c2 < 6 := VX.lt hb h40
          refine JV.elS (p2 := 58) rfl (VX.eq hb h40) (by omega) rfl ?_
          refine JV.getS0 (p2 := 61) rfl (by omega) rfl ?_
          by_cases h61 : (m 1 j 0) < (m 1 (ix c2) 0)
          · rw [if_pos h61] at hx
            refine JV.brF (p2 := 64) rfl rfl rfl (Int32.not_le.mpr h61) ?_
            refine JV.ild (p2 := 65) rfl rfl rfl ?_
            refine JV.ist (p2 := 66) rfl rfl rfl ?_
            refine JV.iinc (p2 := 69) rfl rfl (nI_1 _) rfl rfl ?_
            refine JV.goto rfl ?_
            subst hx
            exact ih (j + 1) _ (by omega) iv hc2
          · rw [if_neg h61] at hx
            refine JV.brT rfl rfl (Int32.not_lt.mp h61) ?_
            refine JV.iinc (p2 := 69) rfl rfl (nI_1 _) rfl rfl ?_
            refine JV.goto rfl ?_
            subst hx
            exact ih (j + 1) _ (by omega) iv hc2
    · rw [if_neg h22] at hx
      refine JV.brT rfl rfl h22 ?_
      refine JV.iinc (p2 := 69) rfl rfl (nI_1 _) rfl rfl ?_
      refine JV.goto rfl ?_
      subst hx
      exact ih (j + 1) _ (by omega) iv hc2
theorem lq_X1_freeStandFor_4 {d n c s b : Nat} {M : JM} {o : JO} {hf : JH} {m : Mem} {w1 : Int32} {N : Nat} {c2 : Int32} (hd : 0 ≤ d) (hNc : N ≤ 6) (hN : m 0 0 0 = nI N) (hb : VX 6 c2) (hc : JV (Ev mtab mcode d) jcX1_freeStandFor (72, [(0, .ref b), (1, .int w1), (2, .int (lf_X1_freeStandFor_4 m w1 N c2))], []) (n, c, s, fm b m M) o hf) : JV (Ev mtab mcode d) jcX1_freeStandFor (4, [(0, .ref b), (1, .int w1), (2, .int c2), (3, .int 0)], []) (n, c, s, fm b m M) o hf := by
  rw [lf_X1_freeStandFor_4_eq] at hc
  unfold ly_X1_freeStandFor_4 at hc
  exact lp_X1_freeStandFor_4 hd hNc hN N 0 c2 (by omega) hb hc
noncomputable def y_X1_freeStandFor (m : Mem) (p1 : Int32) : Int32 := (lf_X1_freeStandFor_4 m p1 (ix (m 0 0 0)) (-1))
theorem xe_X1_freeStandFor : ∃ f, f = y_X1_freeStandFor := ⟨y_X1_freeStandFor, rfl⟩
noncomputable def x_X1_freeStandFor := Classical.choose xe_X1_freeStandFor
theorem x_X1_freeStandFor_eq : x_X1_freeStandFor = y_X1_freeStandFor := Classical.choose_spec xe_X1_freeStandFor
theorem ev_X1_freeStandFor {d n c s b : Nat} {m : Mem} {M : JM} {p1 : Int32} {res : Int32} (hd : 1 ≤ d) (hF : FK m) (hx : x_X1_freeStandFor m p1 = res) : Ev mtab mcode d 26 [.ref b, .int p1] (n, c, s, fm b m M) (.inl (some (.int res))) (n, c, s, fm b m M) := by
  obtain ⟨d, rfl⟩ : ∃ e, d = e + 1 := ⟨d - 1, by omega⟩
  rw [x_X1_freeStandFor_eq] at hx
  unfold y_X1_freeStandFor at hx
  refine jv_mk (m := mX1_freeStandFor) (cd := jcX1_freeStandFor) rfl rfl (Nat.le_of_ble_eq_true rfl) trivial ?_
  refine JV.stk (len := 1) (sem := (s_push (.int (-1)))) (p2 := 1) rfl rfl rfl ?_
  refine JV.ist (p2 := 2) rfl rfl rfl ?_
  refine JV.stk (len := 1) (sem := (s_push (.int 0))) (p2 := 3) rfl rfl rfl ?_
  refine JV.ist (p2 := 4) rfl rfl rfl ?_
  refine lq_X1_freeStandFor_4 (c2 := (-1)) (N := (ix (m 0 0 0))) (m := m) (w1 := p1) (by omega) hF.ns.2 hF.ns.1 (Or.inl rfl) ?_
  refine JV.ild (p2 := 73) rfl rfl rfl ?_
  subst hx
  exact JV.ret rfl (fun _ => rfl) rfl rfl
theorem vx_X1_freeStandFor {m : Mem} {p1 : Int32} (hF : FK m) : VX 6 (x_X1_freeStandFor m p1) := by
  rw [x_X1_freeStandFor_eq]
  exact fl_X1_freeStandFor_4 hF.ns.2 (Or.inl rfl)
noncomputable def bd_X1_freeTugFor_4 (m : Mem) (w1 : Int32) (j : Nat) (c2 : Int32) : Int32 := (if (m 2 j 1) = (-1) then (if (m 2 j 0) < w1 then c2 else (if c2 = (-1) then (nI j) else (if (m 2 j 0) < (m 2 (ix c2) 0) then (nI j) else c2))) else c2)
noncomputable def ly_X1_freeTugFor_4 (m : Mem) (w1 : Int32) (N : Nat) (c2 : Int32) : Int32 := itr (fun jz s => bd_X1_freeTugFor_4 m w1 jz s) N 0 c2
theorem le_X1_freeTugFor_4 : ∃ f, f = ly_X1_freeTugFor_4 := ⟨ly_X1_freeTugFor_4, rfl⟩
noncomputable def lf_X1_freeTugFor_4 := Classical.choose le_X1_freeTugFor_4
theorem lf_X1_freeTugFor_4_eq : lf_X1_freeTugFor_4 = ly_X1_freeTugFor_4 := Classical.choose_spec le_X1_freeTugFor_4
theorem fb_X1_freeTugFor_4 {m : Mem} {w1 : Int32} {j : Nat} {c2 : Int32} (hjN : j < 3) (hb : VX 3 c2) : (VX 3 (bd_X1_freeTugFor_4 m w1 j c2)) := by
  unfold bd_X1_freeTugFor_4
  by_cases h22 : (m 2 j 1) = (-1)
  · rw [if_pos h22]
    by_cases h35 : (m 2 j 0) < w1
    · rw [if_pos h35]
      exact (by first | assumption | exact VX_nI (by omega) (by decide))
    · rw [if_neg h35]
      by_cases h40 : c2 = (-1)
      · rw [if_pos h40]
        exact (by first | assumption | exact VX_nI (by omega) (by decide))
      · rw [if_neg h40]
        have b57 : ix c2 < 3 := VX.lt hb h40
        by_cases h61 : (m 2 j 0) < (m 2 (ix c2) 0)
        · rw [if_pos h61]
          exact (by first | assumption | exact VX_nI (by omega) (by decide))
        · rw [if_neg h61]
          exact (by first | assumption | exact VX_nI (by omega) (by decide))
  · rw [if_neg h22]
    exact (by first | assumption | exact VX_nI (by omega) (by decide))
theorem fl_X1_freeTugFor_4 {m : Mem} {w1 : Int32} {N : Nat} {c2 : Int32} (hNc : N ≤ 3) (hb : VX 3 c2) : (VX 3 (lf_X1_freeTugFor_4 m w1 N c2)) := by
  rw [lf_X1_freeTugFor_4_eq]
  unfold ly_X1_freeTugFor_4
  exact itr_inv (n := N) (s := c2) (P := fun jz s => (VX 3 s)) (fun jz s => bd_X1_freeTugFor_4 m w1 jz s) (fun jz s hj hs => fb_X1_freeTugFor_4 (j := jz) (c2 := s) (by omega) hs) hb
theorem lp_X1_freeTugFor_4 {d n c s b : Nat} {M : JM} {o : JO} {hf : JH} {m : Mem} {w1 : Int32} {N : Nat} (hd : 0 ≤ d) (hNc : N ≤ 3) (hN : m 0 0 1 = nI N) : ∀ (k j : Nat) (c2 : Int32), j + k = N → (VX 3 c2) → JV (Ev mtab mcode d) jcX1_freeTugFor (72, [(0, .ref b), (1, .int w1), (2, .int (itr (fun jz s => bd_X1_freeTugFor_4 m w1 jz s) k j c2))], []) (n, c, s, fm b m M) o hf → JV (Ev mtab mcode d) jcX1_freeTugFor (4, [(0, .ref b), (1, .int w1), (2, .int c2), (3, .int (nI j))], []) (n, c, s, fm b m M) o hf := by
  intro k
  induction k with
  | zero =>
    intro j c2 hj hb hc
    refine JV.ild (p2 := 5) rfl rfl rfl ?_
    refine JV.ald (p2 := 6) rfl rfl rfl ?_
    refine JV.getF1 (p2 := 9) rfl rfl ?_
    refine JV.brT rfl rfl (by rw [hN]; exact nI_le (a := N) (b := j) (by omega) (by omega)) ?_
    exact JV.keep [0, 1, 2] rfl hc
  | succ k ih =>
    intro j c2 hj hb hc
    obtain ⟨s1, hx⟩ : ∃ s1, bd_X1_freeTugFor_4 m w1 j c2 = s1 := ⟨_, rfl⟩
    have hc2 : JV (Ev mtab mcode d) jcX1_freeTugFor (72, [(0, .ref b), (1, .int w1), (2, .int (itr (fun jz s => bd_X1_freeTugFor_4 m w1 jz s) k (j + 1) s1))], []) (n, c, s, fm b m M) o hf := by
      subst hx
      exact hc
    clear hc
    have iv := fb_X1_freeTugFor_4 (m := m) (w1 := w1) (j := j) (c2 := c2) (by omega) hb
    rw [hx] at iv
    unfold bd_X1_freeTugFor_4 at hx
    refine JV.ild (p2 := 5) rfl rfl rfl ?_
    refine JV.ald (p2 := 6) rfl rfl rfl ?_
    refine JV.getF1 (p2 := 9) rfl rfl ?_
    refine JV.brF (p2 := 12) rfl rfl rfl (by rw [hN]; exact nI_ge (a := j) (b := N) (by omega) (by omega)) ?_
    refine JV.ald (p2 := 13) rfl rfl rfl ?_
    refine JV.getFr1 (p2 := 16) rfl rfl ?_
    refine JV.ild (p2 := 17) rfl rfl rfl ?_
    refine JV.elT (p2 := 18) rfl rfl (by omega) rfl ?_
    refine JV.getT1 (p2 := 21) rfl (by omega) rfl ?_
    refine JV.stk (len := 1) (sem := (s_push (.int (-1)))) (p2 := 22) rfl rfl rfl ?_
    by_cases h22 : (m 2 j 1) = (-1)
    · rw [if_pos h22] at hx
      refine JV.brF (p2 := 25) rfl rfl rfl (fun e => e h22) ?_
      refine JV.ald (p2 := 26) rfl rfl rfl ?_
      refine JV.getFr1 (p2 := 29) rfl rfl ?_
      refine JV.ild (p2 := 30) rfl rfl rfl ?_
      refine JV.elT (p2 := 31) rfl rfl (by omega) rfl ?_
      refine JV.getT0 (p2 := 34) rfl (by omega) rfl ?_
      refine JV.ild (p2 := 35) rfl rfl rfl ?_
      by_cases h35 : (m 2 j 0) < w1
      · rw [if_pos h35] at hx
        refine JV.brT rfl rfl h35 ?_
        refine JV.iinc (p2 := 69) rfl rfl (nI_1 _) rfl rfl ?_
        refine JV.goto rfl ?_
        subst hx
        exact ih (j + 1) _ (by omega) iv hc2
      · rw [if_neg h35] at hx
        refine JV.brF (p2 := 38) rfl rfl rfl h35 ?_
        refine JV.ild (p2 := 39) rfl rfl rfl ?_
        refine JV.stk (len := 1) (sem := (s_push (.int (-1)))) (p2 := 40) rfl rfl rfl ?_
        by_cases h40 : c2 = (-1)
        · rw [if_pos h40] at hx
          refine JV.brT rfl rfl h40 ?_
          refine JV.ild (p2 := 65) rfl rfl rfl ?_
          refine JV.ist (p2 := 66) rfl rfl rfl ?_
          refine JV.iinc (p2 := 69) rfl rfl (nI_1 _) rfl rfl ?_
          refine JV.goto rfl ?_
          subst hx
          exact ih (j + 1) _ (by omega) iv hc2
        · rw [if_neg h40] at hx
          refine JV.brF (p2 := 43) rfl rfl rfl h40 ?_
          refine JV.ald (p2 := 44) rfl rfl rfl ?_
          refine JV.getFr1 (p2 := 47) rfl rfl ?_
          refine JV.ild (p2 := 48) rfl rfl rfl ?_
          refine JV.elT (p2 := 49) rfl rfl (by omega) rfl ?_
          refine JV.getT0 (p2 := 52) rfl (by omega) rfl ?_
          refine JV.ald (p2 := 53) rfl rfl rfl ?_
          refine JV.getFr1 (p2 := 56) rfl rfl ?_
          refine JV.ild (p2 := 57) rfl rfl rfl ?_
          have b57 : ix c2 < 3 := VX.lt hb h40
          refine JV.elT (p2 := 58) rfl (VX.eq hb h40) (by omega) rfl ?_
          refine JV.getT0 (p2 := 61) rfl (by omega) rfl ?_
          by_cases h61 : (m 2 j 0) < (m 2 (ix c2) 0)
          · rw [if_pos h61] at hx
            refine JV.brF (p2 := 64) rfl rfl rfl (Int32.not_le.mpr h61) ?_
            refine JV.ild (p2 := 65) rfl rfl rfl ?_
            refine JV.ist (p2 := 66) rfl rfl rfl ?_
            refine JV.iinc (p2 := 69) rfl rfl (nI_1 _) rfl rfl ?_
            refine JV.goto rfl ?_
            subst hx
            exact ih (j + 1) _ (by omega) iv hc2
          · rw [if_neg h61] at hx
            refine JV.brT rfl rfl (Int32.not_lt.mp h61) ?_
            refine JV.iinc (p2 := 69) rfl rfl (nI_1 _) rfl rfl ?_
            refine JV.goto rfl ?_
            subst hx
            exact ih (j + 1) _ (by omega) iv hc2
    · rw [if_neg h22] at hx
      refine JV.brT rfl rfl h22 ?_
      refine JV.iinc (p2 := 69) rfl rfl (nI_1 _) rfl rfl ?_
      refine JV.goto rfl ?_
      subst hx
      exact ih (j + 1) _ (by omega) iv hc2
theorem lq_X1_freeTugFor_4 {d n c s b : Nat} {M : JM} {o : JO} {hf : JH} {m : Mem} {w1 : Int32} {N : Nat} {c2 : Int32} (hd : 0 ≤ d) (hNc : N ≤ 3) (hN : m 0 0 1 = nI N) (hb : VX 3 c2) (hc : JV (Ev mtab mcode d) jcX1_freeTugFor (72, [(0, .ref b), (1, .int w1), (2, .int (lf_X1_freeTugFor_4 m w1 N c2))], []) (n, c, s, fm b m M) o hf) : JV (Ev mtab mcode d) jcX1_freeTugFor (4, [(0, .ref b), (1, .int w1), (2, .int c2), (3, .int 0)], []) (n, c, s, fm b m M) o hf := by
  rw [lf_X1_freeTugFor_4_eq] at hc
  unfold ly_X1_freeTugFor_4 at hc
  exact lp_X1_freeTugFor_4 hd hNc hN N 0 c2 (by omega) hb hc
noncomputable def y_X1_freeTugFor (m : Mem) (p1 : Int32) : Int32 := (lf_X1_freeTugFor_4 m p1 (ix (m 0 0 1)) (-1))
theorem xe_X1_freeTugFor : ∃ f, f = y_X1_freeTugFor := ⟨y_X1_freeTugFor, rfl⟩
noncomputable def x_X1_freeTugFor := Classical.choose xe_X1_freeTugFor
theorem x_X1_freeTugFor_eq : x_X1_freeTugFor = y_X1_freeTugFor := Classical.choose_spec xe_X1_freeTugFor
theorem ev_X1_freeTugFor {d n c s b : Nat} {m : Mem} {M : JM} {p1 : Int32} {res : Int32} (hd : 1 ≤ d) (hF : FK m) (hx : x_X1_freeTugFor m p1 = res) : Ev mtab mcode d 27 [.ref b, .int p1] (n, c, s, fm b m M) (.inl (some (.int res))) (n, c, s, fm b m M) := by
  obtain ⟨d, rfl⟩ : ∃ e, d = e + 1 := ⟨d - 1, by omega⟩
  rw [x_X1_freeTugFor_eq] at hx
  unfold y_X1_freeTugFor at hx
  refine jv_mk (m := mX1_freeTugFor) (cd := jcX1_freeTugFor) rfl rfl (Nat.le_of_ble_eq_true rfl) trivial ?_
  refine JV.stk (len := 1) (sem := (s_push (.int (-1)))) (p2 := 1) rfl rfl rfl ?_
  refine JV.ist (p2 := 2) rfl rfl rfl ?_
  refine JV.stk (len := 1) (sem := (s_push (.int 0))) (p2 := 3) rfl rfl rfl ?_
  refine JV.ist (p2 := 4) rfl rfl rfl ?_
  refine lq_X1_freeTugFor_4 (c2 := (-1)) (N := (ix (m 0 0 1))) (m := m) (w1 := p1) (by omega) hF.nt.2 hF.nt.1 (Or.inl rfl) ?_
  refine JV.ild (p2 := 73) rfl rfl rfl ?_
  subst hx
  exact JV.ret rfl (fun _ => rfl) rfl rfl
theorem vx_X1_freeTugFor {m : Mem} {p1 : Int32} (hF : FK m) : VX 3 (x_X1_freeTugFor m p1) := by
  rw [x_X1_freeTugFor_eq]
  exact fl_X1_freeTugFor_4 hF.nt.2 (Or.inl rfl)
noncomputable def y_X1_isPushedFrom (m : Mem) (p1 : Int32) : Bool := (if p1 < 0 then false else (if p1 < (m 0 0 0) then (if (m 1 (ix p1) 1) = (-1) then false else (if (m 3 (ix (m 1 (ix p1) 1)) 5) = 4 then true else false)) else false))
theorem xe_X1_isPushedFrom : ∃ f, f = y_X1_isPushedFrom := ⟨y_X1_isPushedFrom, rfl⟩
noncomputable def x_X1_isPushedFrom := Classical.choose xe_X1_isPushedFrom
theorem x_X1_isPushedFrom_eq : x_X1_isPushedFrom = y_X1_isPushedFrom := Classical.choose_spec xe_X1_isPushedFrom
theorem ev_X1_isPushedFrom {d n c s b : Nat} {m : Mem} {M : JM} {p1 : Int32} {res : Bool} (hd : 1 ≤ d) (hF : FK m) (hx : x_X1_isPushedFrom m p1 = res) : Ev mtab mcode d 30 [.ref b, .int p1] (n, c, s, fm b m M) (.inl (some (.int (bI res)))) (n, c, s, fm b m M) := by
  obtain ⟨d, rfl⟩ : ∃ e, d = e + 1 := ⟨d - 1, by omega⟩
  rw [x_X1_isPushedFrom_eq] at hx
  unfold y_X1_isPushedFrom at hx
  refine jv_mk (m := mX1_isPushedFrom) (cd := jcX1_isPushedFrom) rfl rfl (Nat.le_of_ble_eq_true rfl) (bI_or _) ?_
  refine JV.ild (p2 := 1) rfl rfl rfl ?_
  by_cases h1 : p1 < 0
  · rw [if_pos h1] at hx
    refine JV.brT rfl rfl h1 ?_
    refine JV.stk (len := 1) (sem := (s_push (.int 0))) (p2 := 51) rfl rfl rfl ?_
    subst hx
    exact JV.ret rfl (fun _ => rfl) rfl rfl
  · rw [if_neg h1] at hx
    refine JV.brF (p2 := 4) rfl rfl rfl h1 ?_
    refine JV.ild (p2 := 5) rfl rfl rfl ?_
    refine JV.ald (p2 := 6) rfl rfl rfl ?_
    refine JV.getF0 (p2 := 9) rfl rfl ?_
    by_cases h9 : p1 < (m 0 0 0)
    · rw [if_pos h9] at hx
      refine JV.brF (p2 := 12) rfl rfl rfl (Int32.not_le.mpr h9) ?_
      refine JV.ald (p2 := 13) rfl rfl rfl ?_
      refine JV.getFr0 (p2 := 16) rfl rfl ?_
      refine JV.ild (p2 := 17) rfl rfl rfl ?_
      have b17 : ix p1 < 6 := ix_ltN h1 h9 hF.ns (by decide)
      refine JV.elS (p2 := 18) rfl (ix_eq h1) (by omega) rfl ?_
      refine JV.getS1 (p2 := 21) rfl (by omega) rfl ?_
      refine JV.stk (len := 1) (sem := (s_push (.int (-1)))) (p2 := 22) rfl rfl rfl ?_
      by_cases h22 : (m 1 (ix p1) 1) = (-1)
      · rw [if_pos h22] at hx
        refine JV.brT rfl rfl h22 ?_
        refine JV.stk (len := 1) (sem := (s_push (.int 0))) (p2 := 51) rfl rfl rfl ?_
        subst hx
        exact JV.ret rfl (fun _ => rfl) rfl rfl
      · rw [if_neg h22] at hx
        refine JV.brF (p2 := 25) rfl rfl rfl h22 ?_
        refine JV.ald (p2 := 26) rfl rfl rfl ?_
        refine JV.getFr2 (p2 := 29) rfl rfl ?_
        refine JV.ald (p2 := 30) rfl rfl rfl ?_
        refine JV.getFr0 (p2 := 33) rfl rfl ?_
        refine JV.ild (p2 := 34) rfl rfl rfl ?_
        refine JV.elS (p2 := 35) rfl (ix_eq h1) (by omega) rfl ?_
        refine JV.getS1 (p2 := 38) rfl (by omega) rfl ?_
        have b38 : ix (m 1 (ix p1) 1) < 12 := VX.lt (hF.st b17) h22
        refine JV.elA (p2 := 39) rfl (VX.eq (hF.st b17) h22) (by omega) rfl ?_
        refine JV.getA5 (p2 := 42) rfl (by omega) rfl ?_
        refine JV.stk (len := 1) (sem := (s_push (.int 4))) (p2 := 43) rfl rfl rfl ?_
        by_cases h43 : (m 3 (ix (m 1 (ix p1) 1)) 5) = 4
        · rw [if_pos h43] at hx
          refine JV.brF (p2 := 46) rfl rfl rfl (fun e => e h43) ?_
          refine JV.stk (len := 1) (sem := (s_push (.int 1))) (p2 := 47) rfl rfl rfl ?_
          refine JV.goto rfl ?_
          subst hx
          exact JV.ret rfl (fun _ => rfl) rfl rfl
        · rw [if_neg h43] at hx
          refine JV.brT rfl rfl h43 ?_
          refine JV.stk (len := 1) (sem := (s_push (.int 0))) (p2 := 51) rfl rfl rfl ?_
          subst hx
          exact JV.ret rfl (fun _ => rfl) rfl rfl
    · rw [if_neg h9] at hx
      refine JV.brT rfl rfl (Int32.not_lt.mp h9) ?_
      refine JV.stk (len := 1) (sem := (s_push (.int 0))) (p2 := 51) rfl rfl rfl ?_
      subst hx
      exact JV.ret rfl (fun _ => rfl) rfl rfl
noncomputable def y_X1_standAnswer (m : Mem) (q : Nat) (p2 : Int32) : Int32 := (if p2 = 0 then (m 1 q 0) else (if p2 = 1 then (m 1 q 1) else (if p2 = 2 then (if (x_X1_isPushedFrom m (nI q)) = true then 1 else 0) else (m 1 q 2))))
theorem xe_X1_standAnswer : ∃ f, f = y_X1_standAnswer := ⟨y_X1_standAnswer, rfl⟩
noncomputable def x_X1_standAnswer := Classical.choose xe_X1_standAnswer
theorem x_X1_standAnswer_eq : x_X1_standAnswer = y_X1_standAnswer := Classical.choose_spec xe_X1_standAnswer
theorem ev_X1_standAnswer {d n c s b : Nat} {m : Mem} {M : JM} {q : Nat} {v_q : Int32} {p2 : Int32} {res : Int32} (hd : 2 ≤ d) (e_q : v_q = nI q) (hF : FK m) (hq : q < 6) (hx : x_X1_standAnswer m q p2 = res) : Ev mtab mcode d 37 [.ref b, .int v_q, .int p2] (n, c, s, fm b m M) (.inl (some (.int res))) (n, c, s, fm b m M) := by
  obtain ⟨d, rfl⟩ : ∃ e, d = e + 1 := ⟨d - 1, by omega⟩
  subst e_q
  rw [x_X1_standAnswer_eq] at hx
  unfold y_X1_standAnswer at hx
  refine jv_mk (m := mX1_standAnswer) (cd := jcX1_standAnswer) rfl rfl (Nat.le_of_ble_eq_true rfl) trivial ?_
  refine JV.ild (p2 := 1) rfl rfl rfl ?_
  by_cases h1_0 : p2 = 0
  · rw [if_pos h1_0] at hx
    refine JV.sw rfl (by rw [h1_0]) ?_
    refine JV.ald (p2 := 29) rfl rfl rfl ?_
    refine JV.getFr0 (p2 := 32) rfl rfl ?_
    refine JV.ild (p2 := 33) rfl rfl rfl ?_
    refine JV.elS (p2 := 34) rfl rfl (by omega) rfl ?_
    refine JV.getS0 (p2 := 37) rfl (by omega) rfl ?_
    subst hx
    exact JV.ret rfl (fun _ => rfl) rfl rfl
  rw [if_neg h1_0] at hx
  by_cases h1_1 : p2 = 1
  · rw [if_pos h1_1] at hx
    refine JV.sw rfl (by rw [h1_1]) ?_
    refine JV.ald (p2 := 39) rfl rfl rfl ?_
    refine JV.getFr0 (p2 := 42) rfl rfl ?_
    refine JV.ild (p2 := 43) rfl rfl rfl ?_
    refine JV.elS (p2 := 44) rfl rfl (by omega) rfl ?_
    refine JV.getS1 (p2 := 47) rfl (by omega) rfl ?_
    subst hx
    exact JV.ret rfl (fun _ => rfl) rfl rfl
  rw [if_neg h1_1] at hx
  by_cases h1_2 : p2 = 2
  · rw [if_pos h1_2] at hx
    refine JV.sw rfl (by rw [h1_2]) ?_
    refine JV.ald (p2 := 49) rfl rfl rfl ?_
    refine JV.ild (p2 := 50) rfl rfl rfl ?_
    refine JV.invI (p2 := 53) rfl rfl rfl fm_F (Nat.le_of_ble_eq_true rfl) rfl (ev_X1_isPushedFrom (by omega) hF rfl) ?_
    by_cases h53 : (x_X1_isPushedFrom m (nI q)) = true
    · rw [if_pos h53] at hx
      refine JV.brF (p2 := 56) rfl rfl rfl (bI_t h53) ?_
      refine JV.stk (len := 1) (sem := (s_push (.int 1))) (p2 := 57) rfl rfl rfl ?_
      refine JV.goto rfl ?_
      subst hx
      exact JV.ret rfl (fun _ => rfl) rfl rfl
    · rw [if_neg h53] at hx
      refine JV.brT rfl rfl (bI_f h53) ?_
      refine JV.stk (len := 1) (sem := (s_push (.int 0))) (p2 := 61) rfl rfl rfl ?_
      subst hx
      exact JV.ret rfl (fun _ => rfl) rfl rfl
  rw [if_neg h1_2] at hx
  refine JV.sw rfl (sw_out (fun i hi => match i, hi with | 0, _ => Or.inl h1_0 | 1, _ => Or.inl h1_1 | 2, _ => Or.inl h1_2 | (n + 3), hi => absurd hi (by simp))) ?_
  refine JV.ald (p2 := 63) rfl rfl rfl ?_
  refine JV.getFr0 (p2 := 66) rfl rfl ?_
  refine JV.ild (p2 := 67) rfl rfl rfl ?_
  refine JV.elS (p2 := 68) rfl rfl (by omega) rfl ?_
  refine JV.getS2 (p2 := 71) rfl (by omega) rfl ?_
  subst hx
  exact JV.ret rfl (fun _ => rfl) rfl rfl
noncomputable def y_X1_reason (m : Mem) (q : Nat) : Int32 := (if (m 3 q 5) = 0 then 1 else (if (m 3 q 5) = 3 then 2 else (if (x_X0_isOnStandOrBay m q) = true then (if (m 0 0 3) < (m 3 q 3) then 4 else (if (x_X1_isCurfew m) = true then 5 else (if (m 3 q 6) = (-1) then (if (x_X1_freeTugFor m (m 3 q 1)) = (-1) then 7 else 0) else (if (x_X1_isPushedFrom m ((m 3 q 6) - 1)) = true then 6 else (if (x_X1_isPushedFrom m ((m 3 q 6) + 1)) = true then 6 else (if (x_X1_freeTugFor m (m 3 q 1)) = (-1) then 7 else 0)))))) else 3)))
theorem xe_X1_reason : ∃ f, f = y_X1_reason := ⟨y_X1_reason, rfl⟩
noncomputable def x_X1_reason := Classical.choose xe_X1_reason
theorem x_X1_reason_eq : x_X1_reason = y_X1_reason := Classical.choose_spec xe_X1_reason
theorem ev_X1_reason {d n c s b : Nat} {m : Mem} {M : JM} {q : Nat} {v_q : Int32} {res : Int32} (hd : 2 ≤ d) (e_q : v_q = nI q) (hF : FK m) (hq : q < 12) (hx : x_X1_reason m q = res) : Ev mtab mcode d 28 [.ref b, .int v_q] (n, c, s, fm b m M) (.inl (some (.int res))) (n, c, s, fm b m M) := by
  obtain ⟨d, rfl⟩ : ∃ e, d = e + 1 := ⟨d - 1, by omega⟩
  subst e_q
  rw [x_X1_reason_eq] at hx
  unfold y_X1_reason at hx
  refine jv_mk (m := mX1_reason) (cd := jcX1_reason) rfl rfl (Nat.le_of_ble_eq_true rfl) trivial ?_
  refine JV.ald (p2 := 1) rfl rfl rfl ?_
  refine JV.getFr2 (p2 := 4) rfl rfl ?_
  refine JV.ild (p2 := 5) rfl rfl rfl ?_
  refine JV.elA (p2 := 6) rfl rfl (by omega) rfl ?_
  refine JV.ast (p2 := 7) rfl rfl rfl ?_
  refine JV.ald (p2 := 8) rfl rfl rfl ?_
  refine JV.getA5 (p2 := 11) rfl (by omega) rfl ?_
  by_cases h11 : (m 3 q 5) = 0
  · rw [if_pos h11] at hx
    refine JV.brF (p2 := 14) rfl rfl rfl (fun e => e h11) ?_
    refine JV.stk (len := 1) (sem := (s_push (.int 1))) (p2 := 15) rfl rfl rfl ?_
    subst hx
    exact JV.ret rfl (fun _ => rfl) rfl rfl
  · rw [if_neg h11] at hx
    refine JV.brT rfl rfl h11 ?_
    refine JV.ald (p2 := 17) rfl rfl rfl ?_
    refine JV.getA5 (p2 := 20) rfl (by omega) rfl ?_
    refine JV.stk (len := 1) (sem := (s_push (.int 3))) (p2 := 21) rfl rfl rfl ?_
    by_cases h21 : (m 3 q 5) = 3
    · rw [if_pos h21] at hx
      refine JV.brF (p2 := 24) rfl rfl rfl (fun e => e h21) ?_
      refine JV.stk (len := 1) (sem := (s_push (.int 2))) (p2 := 25) rfl rfl rfl ?_
      subst hx
      exact JV.ret rfl (fun _ => rfl) rfl rfl
    · rw [if_neg h21] at hx
      refine JV.brT rfl rfl h21 ?_
      refine JV.ald (p2 := 27) rfl rfl rfl ?_
      refine JV.invI (p2 := 30) rfl rfl rfl (fm_A (by omega)) (Nat.le_of_ble_eq_true rfl) rfl (ev_X0_isOnStandOrBay (by omega) (by omega) rfl) ?_
      by_cases h30 : (x_X0_isOnStandOrBay m q) = true
      · rw [if_pos h30] at hx
        refine JV.brT rfl rfl (bI_t h30) ?_
        refine JV.ald (p2 := 36) rfl rfl rfl ?_
        refine JV.getA3 (p2 := 39) rfl (by omega) rfl ?_
        refine JV.ald (p2 := 40) rfl rfl rfl ?_
        refine JV.getF3 (p2 := 43) rfl rfl ?_
        by_cases h43 : (m 0 0 3) < (m 3 q 3)
        · rw [if_pos h43] at hx
          refine JV.brF (p2 := 46) rfl rfl rfl (Int32.not_le.mpr h43) ?_
          refine JV.stk (len := 1) (sem := (s_push (.int 4))) (p2 := 47) rfl rfl rfl ?_
          subst hx
          exact JV.ret rfl (fun _ => rfl) rfl rfl
        · rw [if_neg h43] at hx
          refine JV.brT rfl rfl (Int32.not_lt.mp h43) ?_
          refine JV.ald (p2 := 49) rfl rfl rfl ?_
          refine JV.invI (p2 := 52) rfl rfl rfl fm_F (Nat.le_of_ble_eq_true rfl) rfl (ev_X1_isCurfew (by omega) rfl) ?_
          by_cases h52 : (x_X1_isCurfew m) = true
          · rw [if_pos h52] at hx
            refine JV.brF (p2 := 55) rfl rfl rfl (bI_t h52) ?_
            refine JV.stk (len := 1) (sem := (s_push (.int 5))) (p2 := 56) rfl rfl rfl ?_
            subst hx
            exact JV.ret rfl (fun _ => rfl) rfl rfl
          · rw [if_neg h52] at hx
            refine JV.brT rfl rfl (bI_f h52) ?_
            refine JV.ald (p2 := 58) rfl rfl rfl ?_
            refine JV.getA6 (p2 := 61) rfl (by omega) rfl ?_
            refine JV.stk (len := 1) (sem := (s_push (.int (-1)))) (p2 := 62) rfl rfl rfl ?_
            by_cases h62 : (m 3 q 6) = (-1)
            · rw [if_pos h62] at hx
              refine JV.brT rfl rfl h62 ?_
              refine JV.ald (p2 := 95) rfl rfl rfl ?_
              refine JV.ald (p2 := 96) rfl rfl rfl ?_
              refine JV.getA1 (p2 := 99) rfl (by omega) rfl ?_
              refine JV.invI (p2 := 102) rfl rfl rfl fm_F (Nat.le_of_ble_eq_true rfl) rfl (ev_X1_freeTugFor (by omega) hF rfl) ?_
              refine JV.stk (len := 1) (sem := (s_push (.int (-1)))) (p2 := 103) rfl rfl rfl ?_
              by_cases h103 : (x_X1_freeTugFor m (m 3 q 1)) = (-1)
              · rw [if_pos h103] at hx
                refine JV.brF (p2 := 106) rfl rfl rfl (fun e => e h103) ?_
                refine JV.stk (len := 2) (sem := (s_push (.int 7))) (p2 := 108) rfl rfl rfl ?_
                refine JV.goto rfl ?_
                subst hx
                exact JV.ret rfl (fun _ => rfl) rfl rfl
              · rw [if_neg h103] at hx
                refine JV.brT rfl rfl h103 ?_
                refine JV.stk (len := 1) (sem := (s_push (.int 0))) (p2 := 112) rfl rfl rfl ?_
                subst hx
                exact JV.ret rfl (fun _ => rfl) rfl rfl
            · rw [if_neg h62] at hx
              refine JV.brF (p2 := 65) rfl rfl rfl h62 ?_
              refine JV.ald (p2 := 66) rfl rfl rfl ?_
              refine JV.ald (p2 := 67) rfl rfl rfl ?_
              refine JV.getA6 (p2 := 70) rfl (by omega) rfl ?_
              refine JV.stk (len := 1) (sem := (s_push (.int 1))) (p2 := 71) rfl rfl rfl ?_
              refine JV.stk (len := 1) (sem := s_isub) (p2 := 72) rfl rfl rfl ?_
              refine JV.invI (p2 := 75) rfl rfl rfl fm_F (Nat.le_of_ble_eq_true rfl) rfl (ev_X1_isPushedFrom (by omega) hF rfl) ?_
              by_cases h75 : (x_X1_isPushedFrom m ((m 3 q 6) - 1)) = true
              · rw [if_pos h75] at hx
                refine JV.brT rfl rfl (bI_t h75) ?_
                refine JV.stk (len := 2) (sem := (s_push (.int 6))) (p2 := 93) rfl rfl rfl ?_
                subst hx
                exact JV.ret rfl (fun _ => rfl) rfl rfl
              · rw [if_neg h75] at hx
                refine JV.brF (p2 := 78) rfl rfl rfl (fun e => e (bI_f h75)) ?_
                refine JV.ald (p2 := 79) rfl rfl rfl ?_
                refine JV.ald (p2 := 80) rfl rfl rfl ?_
                refine JV.getA6 (p2 := 83) rfl (by omega) rfl ?_
                refine JV.stk (len := 1) (sem := (s_push (.int 1))) (p2 := 84) rfl rfl rfl ?_
                refine JV.stk (len := 1) (sem := s_iadd) (p2 := 85) rfl rfl rfl ?_
                refine JV.invI (p2 := 88) rfl rfl rfl fm_F (Nat.le_of_ble_eq_true rfl) rfl (ev_X1_isPushedFrom (by omega) hF rfl) ?_
                by_cases h88 : (x_X1_isPushedFrom m ((m 3 q 6) + 1)) = true
                · rw [if_pos h88] at hx
                  refine JV.brF (p2 := 91) rfl rfl rfl (bI_t h88) ?_
                  refine JV.stk (len := 2) (sem := (s_push (.int 6))) (p2 := 93) rfl rfl rfl ?_
                  subst hx
                  exact JV.ret rfl (fun _ => rfl) rfl rfl
                · rw [if_neg h88] at hx
                  refine JV.brT rfl rfl (bI_f h88) ?_
                  refine JV.ald (p2 := 95) rfl rfl rfl ?_
                  refine JV.ald (p2 := 96) rfl rfl rfl ?_
                  refine JV.getA1 (p2 := 99) rfl (by omega) rfl ?_
                  refine JV.invI (p2 := 102) rfl rfl rfl fm_F (Nat.le_of_ble_eq_true rfl) rfl (ev_X1_freeTugFor (by omega) hF rfl) ?_
                  refine JV.stk (len := 1) (sem := (s_push (.int (-1)))) (p2 := 103) rfl rfl rfl ?_
                  by_cases h103 : (x_X1_freeTugFor m (m 3 q 1)) = (-1)
                  · rw [if_pos h103] at hx
                    refine JV.brF (p2 := 106) rfl rfl rfl (fun e => e h103) ?_
                    refine JV.stk (len := 2) (sem := (s_push (.int 7))) (p2 := 108) rfl rfl rfl ?_
                    refine JV.goto rfl ?_
                    subst hx
                    exact JV.ret rfl (fun _ => rfl) rfl rfl
                  · rw [if_neg h103] at hx
                    refine JV.brT rfl rfl h103 ?_
                    refine JV.stk (len := 1) (sem := (s_push (.int 0))) (p2 := 112) rfl rfl rfl ?_
                    subst hx
                    exact JV.ret rfl (fun _ => rfl) rfl rfl
      · rw [if_neg h30] at hx
        refine JV.brF (p2 := 33) rfl rfl rfl (fun e => e (bI_f h30)) ?_
        refine JV.stk (len := 1) (sem := (s_push (.int 3))) (p2 := 34) rfl rfl rfl ?_
        subst hx
        exact JV.ret rfl (fun _ => rfl) rfl rfl
noncomputable def y_X1_answer (m : Mem) (p1 : Int32) : Int32 := (if p1 = 0 then (m 0 0 0) else (if p1 = 1 then (m 0 0 1) else (if p1 = 2 then (m 0 0 2) else (if p1 = 3 then (m 0 0 3) else (if p1 = 4 then (m 0 0 4) else (if p1 = 5 then (m 0 0 5) else (if p1 = 12 then (x_X1_sumOfDelays m) else (if p1 = 13 then (x_X1_greatestDelay m) else (if p1 = 14 then (x_X1_sumOfBuses m) else (if p1 = 15 then (x_X2_kept m) else (x_X1_countAt m (p1 - 6))))))))))))
theorem xe_X1_answer : ∃ f, f = y_X1_answer := ⟨y_X1_answer, rfl⟩
noncomputable def x_X1_answer := Classical.choose xe_X1_answer
theorem x_X1_answer_eq : x_X1_answer = y_X1_answer := Classical.choose_spec xe_X1_answer
theorem ev_X1_answer {d n c s b : Nat} {m : Mem} {M : JM} {p1 : Int32} {res : Int32} (hd : 2 ≤ d) (hF : FK m) (hx : x_X1_answer m p1 = res) : Ev mtab mcode d 38 [.ref b, .int p1] (n, c, s, fm b m M) (.inl (some (.int res))) (n, c, s, fm b m M) := by
  obtain ⟨d, rfl⟩ : ∃ e, d = e + 1 := ⟨d - 1, by omega⟩
  rw [x_X1_answer_eq] at hx
  unfold y_X1_answer at hx
  refine jv_mk (m := mX1_answer) (cd := jcX1_answer) rfl rfl (Nat.le_of_ble_eq_true rfl) trivial ?_
  refine JV.ild (p2 := 1) rfl rfl rfl ?_
  by_cases h1_0 : p1 = 0
  · rw [if_pos h1_0] at hx
    refine JV.sw rfl (by rw [h1_0]) ?_
    refine JV.ald (p2 := 81) rfl rfl rfl ?_
    refine JV.getF0 (p2 := 84) rfl rfl ?_
    subst hx
    exact JV.ret rfl (fun _ => rfl) rfl rfl
  rw [if_neg h1_0] at hx
  by_cases h1_1 : p1 = 1
  · rw [if_pos h1_1] at hx
    refine JV.sw rfl (by rw [h1_1]) ?_
    refine JV.ald (p2 := 86) rfl rfl rfl ?_
    refine JV.getF1 (p2 := 89) rfl rfl ?_
    subst hx
    exact JV.ret rfl (fun _ => rfl) rfl rfl
  rw [if_neg h1_1] at hx
  by_cases h1_2 : p1 = 2
  · rw [if_pos h1_2] at hx
    refine JV.sw rfl (by rw [h1_2]) ?_
    refine JV.ald (p2 := 91) rfl rfl rfl ?_
    refine JV.getF2 (p2 := 94) rfl rfl ?_
    subst hx
    exact JV.ret rfl (fun _ => rfl) rfl rfl
  rw [if_neg h1_2] at hx
  by_cases h1_3 : p1 = 3
  · rw [if_pos h1_3] at hx
    refine JV.sw rfl (by rw [h1_3]) ?_
    refine JV.ald (p2 := 96) rfl rfl rfl ?_
    refine JV.getF3 (p2 := 99) rfl rfl ?_
    subst hx
    exact JV.ret rfl (fun _ => rfl) rfl rfl
  rw [if_neg h1_3] at hx
  by_cases h1_4 : p1 = 4
  · rw [if_pos h1_4] at hx
    refine JV.sw rfl (by rw [h1_4]) ?_
    refine JV.ald (p2 := 101) rfl rfl rfl ?_
    refine JV.getF4 (p2 := 104) rfl rfl ?_
    subst hx
    exact JV.ret rfl (fun _ => rfl) rfl rfl
  rw [if_neg h1_4] at hx
  by_cases h1_5 : p1 = 5
  · rw [if_pos h1_5] at hx
    refine JV.sw rfl (by rw [h1_5]) ?_
    refine JV.ald (p2 := 106) rfl rfl rfl ?_
    refine JV.getF5 (p2 := 109) rfl rfl ?_
    subst hx
    exact JV.ret rfl (fun _ => rfl) rfl rfl
  rw [if_neg h1_5] at hx
  by_cases h1_12 : p1 = 12
  · rw [if_pos h1_12] at hx
    refine JV.sw rfl (by rw [h1_12]) ?_
    refine JV.ald (p2 := 111) rfl rfl rfl ?_
    refine JV.invI (p2 := 114) rfl rfl rfl fm_F (Nat.le_of_ble_eq_true rfl) rfl (ev_X1_sumOfDelays (by omega) hF rfl) ?_
    subst hx
    exact JV.ret rfl (fun _ => rfl) rfl rfl
  rw [if_neg h1_12] at hx
  by_cases h1_13 : p1 = 13
  · rw [if_pos h1_13] at hx
    refine JV.sw rfl (by rw [h1_13]) ?_
    refine JV.ald (p2 := 116) rfl rfl rfl ?_
    refine JV.invI (p2 := 119) rfl rfl rfl fm_F (Nat.le_of_ble_eq_true rfl) rfl (ev_X1_greatestDelay (by omega) hF rfl) ?_
    subst hx
    exact JV.ret rfl (fun _ => rfl) rfl rfl
  rw [if_neg h1_13] at hx
  by_cases h1_14 : p1 = 14
  · rw [if_pos h1_14] at hx
    refine JV.sw rfl (by rw [h1_14]) ?_
    refine JV.ald (p2 := 121) rfl rfl rfl ?_
    refine JV.invI (p2 := 124) rfl rfl rfl fm_F (Nat.le_of_ble_eq_true rfl) rfl (ev_X1_sumOfBuses (by omega) hF rfl) ?_
    subst hx
    exact JV.ret rfl (fun _ => rfl) rfl rfl
  rw [if_neg h1_14] at hx
  by_cases h1_15 : p1 = 15
  · rw [if_pos h1_15] at hx
    refine JV.sw rfl (by rw [h1_15]) ?_
    refine JV.ald (p2 := 126) rfl rfl rfl ?_
    refine JV.getFr3 (p2 := 129) rfl rfl ?_
    refine JV.invI (p2 := 132) rfl rfl rfl fm_L (Nat.le_of_ble_eq_true rfl) rfl (ev_X2_kept (by omega) rfl) ?_
    subst hx
    exact JV.ret rfl (fun _ => rfl) rfl rfl
  rw [if_neg h1_15] at hx
  refine JV.sw rfl (sw_out (fun i hi => match i, hi with | 0, _ => Or.inl h1_0 | 1, _ => Or.inl h1_1 | 2, _ => Or.inl h1_2 | 3, _ => Or.inl h1_3 | 4, _ => Or.inl h1_4 | 5, _ => Or.inl h1_5 | 6, _ => Or.inr rfl | 7, _ => Or.inr rfl | 8, _ => Or.inr rfl | 9, _ => Or.inr rfl | 10, _ => Or.inr rfl | 11, _ => Or.inr rfl | 12, _ => Or.inl h1_12 | 13, _ => Or.inl h1_13 | 14, _ => Or.inl h1_14 | 15, _ => Or.inl h1_15 | (n + 16), hi => absurd hi (by simp))) ?_
  refine JV.ald (p2 := 134) rfl rfl rfl ?_
  refine JV.ild (p2 := 135) rfl rfl rfl ?_
  refine JV.stk (len := 2) (sem := (s_push (.int 6))) (p2 := 137) rfl rfl rfl ?_
  refine JV.stk (len := 1) (sem := s_isub) (p2 := 138) rfl rfl rfl ?_
  refine JV.invI (p2 := 141) rfl rfl rfl fm_F (Nat.le_of_ble_eq_true rfl) rfl (ev_X1_countAt (by omega) hF rfl) ?_
  subst hx
  exact JV.ret rfl (fun _ => rfl) rfl rfl
noncomputable def bd_X1_nextToLeave_4 (m : Mem) (w1 : Int32) (j : Nat) (c2 : Int32) : Int32 := (if (x_X0_isOnStandOrBay m j) = true then (if (m 0 0 3) < (m 3 j 3) then c2 else (if w1 < (x_X1_turn m j) then (if c2 = (-1) then (nI j) else (if (x_X1_turn m j) < (x_X1_turn m (ix c2)) then (nI j) else c2)) else c2)) else c2)
noncomputable def ly_X1_nextToLeave_4 (m : Mem) (w1 : Int32) (N : Nat) (c2 : Int32) : Int32 := itr (fun jz s => bd_X1_nextToLeave_4 m w1 jz s) N 0 c2
theorem le_X1_nextToLeave_4 : ∃ f, f = ly_X1_nextToLeave_4 := ⟨ly_X1_nextToLeave_4, rfl⟩
noncomputable def lf_X1_nextToLeave_4 := Classical.choose le_X1_nextToLeave_4
theorem lf_X1_nextToLeave_4_eq : lf_X1_nextToLeave_4 = ly_X1_nextToLeave_4 := Classical.choose_spec le_X1_nextToLeave_4
theorem fb_X1_nextToLeave_4 {m : Mem} {w1 : Int32} {j : Nat} {c2 : Int32} (hjN : j < 12) (hb : VX 12 c2) : (VX 12 (bd_X1_nextToLeave_4 m w1 j c2)) := by
  unfold bd_X1_nextToLeave_4
  by_cases h25 : (x_X0_isOnStandOrBay m j) = true
  · rw [if_pos h25]
    by_cases h37 : (m 0 0 3) < (m 3 j 3)
    · rw [if_pos h37]
      exact (by first | assumption | exact VX_nI (by omega) (by decide))
    · rw [if_neg h37]
      by_cases h46 : w1 < (x_X1_turn m j)
      · rw [if_pos h46]
        by_cases h51 : c2 = (-1)
        · rw [if_pos h51]
          exact (by first | assumption | exact VX_nI (by omega) (by decide))
        · rw [if_neg h51]
          have b61 : ix c2 < 12 := VX.lt hb h51
          by_cases h64 : (x_X1_turn m j) < (x_X1_turn m (ix c2))
          · rw [if_pos h64]
            exact (by first | assumption | exact VX_nI (by omega) (by decide))
          · rw [if_neg h64]
            exact (by first | assumption | exact VX_nI (by omega) (by decide))
      · rw [if_neg h46]
        exact (by first | assumption | exact VX_nI (by omega) (by decide))
  · rw [if_neg h25]
    exact (by first | assumption | exact VX_nI (by omega) (by decide))
theorem fl_X1_nextToLeave_4 {m : Mem} {w1 : Int32} {N : Nat} {c2 : Int32} (hNc : N ≤ 12) (hb : VX 12 c2) : (VX 12 (lf_X1_nextToLeave_4 m w1 N c2)) := by
  rw [lf_X1_nextToLeave_4_eq]
  unfold ly_X1_nextToLeave_4
  exact itr_inv (n := N) (s := c2) (P := fun jz s => (VX 12 s)) (fun jz s => bd_X1_nextToLeave_4 m w1 jz s) (fun jz s hj hs => fb_X1_nextToLeave_4 (j := jz) (c2 := s) (by omega) hs) hb
theorem lp_X1_nextToLeave_4 {d n c s b : Nat} {M : JM} {o : JO} {hf : JH} {m : Mem} {w1 : Int32} {N : Nat} (hd : 1 ≤ d) (hNc : N ≤ 12) (hN : m 0 0 2 = nI N) : ∀ (k j : Nat) (c2 : Int32), j + k = N → (VX 12 c2) → JV (Ev mtab mcode d) jcX1_nextToLeave (75, [(0, .ref b), (1, .int w1), (2, .int (itr (fun jz s => bd_X1_nextToLeave_4 m w1 jz s) k j c2))], []) (n, c, s, fm b m M) o hf → JV (Ev mtab mcode d) jcX1_nextToLeave (4, [(0, .ref b), (1, .int w1), (2, .int c2), (3, .int (nI j))], []) (n, c, s, fm b m M) o hf := by
  intro k
  induction k with
  | zero =>
    intro j c2 hj hb hc
    refine JV.ild (p2 := 5) rfl rfl rfl ?_
    refine JV.ald (p2 := 6) rfl rfl rfl ?_
    refine JV.getF2 (p2 := 9) rfl rfl ?_
    refine JV.brT rfl rfl (by rw [hN]; exact nI_le (a := N) (b := j) (by omega) (by omega)) ?_
    exact JV.keep [0, 1, 2] rfl hc
  | succ k ih =>
    intro j c2 hj hb hc
    obtain ⟨s1, hx⟩ : ∃ s1, bd_X1_nextToLeave_4 m w1 j c2 = s1 := ⟨_, rfl⟩
    have hc2 : JV (Ev mtab mcode d) jcX1_nextToLeave (75, [(0, .ref b), (1, .int w1), (2, .int (itr (fun jz s => bd_X1_nextToLeave_4 m w1 jz s) k (j + 1) s1))], []) (n, c, s, fm b m M) o hf := by
      subst hx
      exact hc
    clear hc
    have iv := fb_X1_nextToLeave_4 (m := m) (w1 := w1) (j := j) (c2 := c2) (by omega) hb
    rw [hx] at iv
    unfold bd_X1_nextToLeave_4 at hx
    refine JV.ild (p2 := 5) rfl rfl rfl ?_
    refine JV.ald (p2 := 6) rfl rfl rfl ?_
    refine JV.getF2 (p2 := 9) rfl rfl ?_
    refine JV.brF (p2 := 12) rfl rfl rfl (by rw [hN]; exact nI_ge (a := j) (b := N) (by omega) (by omega)) ?_
    refine JV.ald (p2 := 13) rfl rfl rfl ?_
    refine JV.getFr2 (p2 := 16) rfl rfl ?_
    refine JV.ild (p2 := 17) rfl rfl rfl ?_
    refine JV.elA (p2 := 18) rfl rfl (by omega) rfl ?_
    refine JV.ast (p2 := 20) rfl rfl rfl ?_
    refine JV.ald (p2 := 22) rfl rfl rfl ?_
    refine JV.invI (p2 := 25) rfl rfl rfl (fm_A (by omega)) (Nat.le_of_ble_eq_true rfl) rfl (ev_X0_isOnStandOrBay (by omega) (by omega) rfl) ?_
    by_cases h25 : (x_X0_isOnStandOrBay m j) = true
    · rw [if_pos h25] at hx
      refine JV.brF (p2 := 28) rfl rfl rfl (bI_t h25) ?_
      refine JV.ald (p2 := 30) rfl rfl rfl ?_
      refine JV.getA3 (p2 := 33) rfl (by omega) rfl ?_
      refine JV.ald (p2 := 34) rfl rfl rfl ?_
      refine JV.getF3 (p2 := 37) rfl rfl ?_
      by_cases h37 : (m 0 0 3) < (m 3 j 3)
      · rw [if_pos h37] at hx
        refine JV.brT rfl rfl h37 ?_
        refine JV.iinc (p2 := 72) rfl rfl (nI_1 _) rfl rfl ?_
        refine JV.goto rfl ?_
        refine JV.keep [0, 1, 2, 3] rfl ?_
        subst hx
        exact ih (j + 1) _ (by omega) iv hc2
      · rw [if_neg h37] at hx
        refine JV.brF (p2 := 40) rfl rfl rfl h37 ?_
        refine JV.ald (p2 := 41) rfl rfl rfl ?_
        refine JV.ild (p2 := 42) rfl rfl rfl ?_
        refine JV.invI (p2 := 45) rfl rfl rfl fm_F (Nat.le_of_ble_eq_true rfl) rfl (ev_X1_turn (q := j) (by omega) rfl (by omega) rfl) ?_
        refine JV.ild (p2 := 46) rfl rfl rfl ?_
        by_cases h46 : w1 < (x_X1_turn m j)
        · rw [if_pos h46] at hx
          refine JV.brF (p2 := 49) rfl rfl rfl (Int32.not_le.mpr h46) ?_
          refine JV.ild (p2 := 50) rfl rfl rfl ?_
          refine JV.stk (len := 1) (sem := (s_push (.int (-1)))) (p2 := 51) rfl rfl rfl ?_
          by_cases h51 : c2 = (-1)
          · rw [if_pos h51] at hx
            refine JV.brT rfl rfl h51 ?_
            refine JV.ild (p2 := 68) rfl rfl rfl ?_
            refine JV.ist (p2 := 69) rfl rfl rfl ?_
            refine JV.iinc (p2 := 72) rfl rfl (nI_1 _) rfl rfl ?_
            refine JV.goto rfl ?_
            refine JV.keep [0, 1, 2, 3] rfl ?_
            subst hx
            exact ih (j + 1) _ (by omega) iv hc2
          · rw [if_neg h51] at hx
            refine JV.brF (p2 := 54) rfl rfl rfl h51 ?_
            refine JV.ald (p2 := 55) rfl rfl rfl ?_
            refine JV.ild (p2 := 56) rfl rfl rfl ?_
            refine JV.invI (p2 := 59) rfl rfl rfl fm_F (Nat.le_of_ble_eq_true rfl) rfl (ev_X1_turn (q := j) (by omega) rfl (by omega) rfl) ?_
            refine JV.ald (p2 := 60) rfl rfl rfl ?_
            refine JV.ild (p2 := 61) rfl rfl rfl ?_
            have b61 : ix c2 < 12 := VX.lt hb h51
            refine JV.invI (p2 := 64) rfl rfl rfl fm_F (Nat.le_of_ble_eq_true rfl) rfl (ev_X1_turn (q := (ix c2)) (by omega) (VX.eq hb h51) (by omega) rfl) ?_
            by_cases h64 : (x_X1_turn m j) < (x_X1_turn m (ix c2))
            · rw [if_pos h64] at hx
              refine JV.brF (p2 := 67) rfl rfl rfl (Int32.not_le.mpr h64) ?_
              refine JV.ild (p2 := 68) rfl rfl rfl ?_
              refine JV.ist (p2 := 69) rfl rfl rfl ?_
              refine JV.iinc (p2 := 72) rfl rfl (nI_1 _) rfl rfl ?_
              refine JV.goto rfl ?_
              refine JV.keep [0, 1, 2, 3] rfl ?_
              subst hx
              exact ih (j + 1) _ (by omega) iv hc2
            · rw [if_neg h64] at hx
              refine JV.brT rfl rfl (Int32.not_lt.mp h64) ?_
              refine JV.iinc (p2 := 72) rfl rfl (nI_1 _) rfl rfl ?_
              refine JV.goto rfl ?_
              refine JV.keep [0, 1, 2, 3] rfl ?_
              subst hx
              exact ih (j + 1) _ (by omega) iv hc2
        · rw [if_neg h46] at hx
          refine JV.brT rfl rfl (Int32.not_lt.mp h46) ?_
          refine JV.iinc (p2 := 72) rfl rfl (nI_1 _) rfl rfl ?_
          refine JV.goto rfl ?_
          refine JV.keep [0, 1, 2, 3] rfl ?_
          subst hx
          exact ih (j + 1) _ (by omega) iv hc2
    · rw [if_neg h25] at hx
      refine JV.brT rfl rfl (bI_f h25) ?_
      refine JV.iinc (p2 := 72) rfl rfl (nI_1 _) rfl rfl ?_
      refine JV.goto rfl ?_
      refine JV.keep [0, 1, 2, 3] rfl ?_
      subst hx
      exact ih (j + 1) _ (by omega) iv hc2
theorem lq_X1_nextToLeave_4 {d n c s b : Nat} {M : JM} {o : JO} {hf : JH} {m : Mem} {w1 : Int32} {N : Nat} {c2 : Int32} (hd : 1 ≤ d) (hNc : N ≤ 12) (hN : m 0 0 2 = nI N) (hb : VX 12 c2) (hc : JV (Ev mtab mcode d) jcX1_nextToLeave (75, [(0, .ref b), (1, .int w1), (2, .int (lf_X1_nextToLeave_4 m w1 N c2))], []) (n, c, s, fm b m M) o hf) : JV (Ev mtab mcode d) jcX1_nextToLeave (4, [(0, .ref b), (1, .int w1), (2, .int c2), (3, .int 0)], []) (n, c, s, fm b m M) o hf := by
  rw [lf_X1_nextToLeave_4_eq] at hc
  unfold ly_X1_nextToLeave_4 at hc
  exact lp_X1_nextToLeave_4 hd hNc hN N 0 c2 (by omega) hb hc
noncomputable def y_X1_nextToLeave (m : Mem) (p1 : Int32) : Int32 := (lf_X1_nextToLeave_4 m p1 (ix (m 0 0 2)) (-1))
theorem xe_X1_nextToLeave : ∃ f, f = y_X1_nextToLeave := ⟨y_X1_nextToLeave, rfl⟩
noncomputable def x_X1_nextToLeave := Classical.choose xe_X1_nextToLeave
theorem x_X1_nextToLeave_eq : x_X1_nextToLeave = y_X1_nextToLeave := Classical.choose_spec xe_X1_nextToLeave
theorem ev_X1_nextToLeave {d n c s b : Nat} {m : Mem} {M : JM} {p1 : Int32} {res : Int32} (hd : 2 ≤ d) (hF : FK m) (hx : x_X1_nextToLeave m p1 = res) : Ev mtab mcode d 22 [.ref b, .int p1] (n, c, s, fm b m M) (.inl (some (.int res))) (n, c, s, fm b m M) := by
  obtain ⟨d, rfl⟩ : ∃ e, d = e + 1 := ⟨d - 1, by omega⟩
  rw [x_X1_nextToLeave_eq] at hx
  unfold y_X1_nextToLeave at hx
  refine jv_mk (m := mX1_nextToLeave) (cd := jcX1_nextToLeave) rfl rfl (Nat.le_of_ble_eq_true rfl) trivial ?_
  refine JV.stk (len := 1) (sem := (s_push (.int (-1)))) (p2 := 1) rfl rfl rfl ?_
  refine JV.ist (p2 := 2) rfl rfl rfl ?_
  refine JV.stk (len := 1) (sem := (s_push (.int 0))) (p2 := 3) rfl rfl rfl ?_
  refine JV.ist (p2 := 4) rfl rfl rfl ?_
  refine lq_X1_nextToLeave_4 (c2 := (-1)) (N := (ix (m 0 0 2))) (m := m) (w1 := p1) (by omega) hF.na.2 hF.na.1 (Or.inl rfl) ?_
  refine JV.ild (p2 := 76) rfl rfl rfl ?_
  subst hx
  exact JV.ret rfl (fun _ => rfl) rfl rfl
theorem vx_X1_nextToLeave {m : Mem} {p1 : Int32} (hF : FK m) : VX 12 (x_X1_nextToLeave m p1) := by
  rw [x_X1_nextToLeave_eq]
  exact fl_X1_nextToLeave_4 hF.na.2 (Or.inl rfl)
noncomputable def bd_X1_quietMinutes_11 (m : Mem) (j : Nat) (c1 : Int32) : Int32 := (if (m 2 j 1) = (-1) then c1 else (if ((m 0 0 3) + (m 2 j 2)) < c1 then ((m 0 0 3) + (m 2 j 2)) else c1))
noncomputable def ly_X1_quietMinutes_11 (m : Mem) (N : Nat) (c1 : Int32) : Int32 := itr (fun jz s => bd_X1_quietMinutes_11 m jz s) N 0 c1
theorem le_X1_quietMinutes_11 : ∃ f, f = ly_X1_quietMinutes_11 := ⟨ly_X1_quietMinutes_11, rfl⟩
noncomputable def lf_X1_quietMinutes_11 := Classical.choose le_X1_quietMinutes_11
theorem lf_X1_quietMinutes_11_eq : lf_X1_quietMinutes_11 = ly_X1_quietMinutes_11 := Classical.choose_spec le_X1_quietMinutes_11
theorem lp_X1_quietMinutes_11 {d n c s b : Nat} {M : JM} {o : JO} {hf : JH} {m : Mem} {N : Nat} (hd : 1 ≤ d) (hNc : N ≤ 3) (hN : m 0 0 1 = nI N) : ∀ (k j : Nat) (c1 : Int32), j + k = N → JV (Ev mtab mcode d) jcX1_quietMinutes (57, [(0, .ref b), (1, .int (itr (fun jz s => bd_X1_quietMinutes_11 m jz s) k j c1))], []) (n, c, s, fm b m M) o hf → JV (Ev mtab mcode d) jcX1_quietMinutes (11, [(0, .ref b), (1, .int c1), (2, .int (nI j))], []) (n, c, s, fm b m M) o hf := by
  intro k
  induction k with
  | zero =>
    intro j c1 hj hc
    refine JV.ild (p2 := 12) rfl rfl rfl ?_
    refine JV.ald (p2 := 13) rfl rfl rfl ?_
    refine JV.getF1 (p2 := 16) rfl rfl ?_
    refine JV.brT rfl rfl (by rw [hN]; exact nI_le (a := N) (b := j) (by omega) (by omega)) ?_
    exact JV.keep [0, 1] rfl hc
  | succ k ih =>
    intro j c1 hj hc
    obtain ⟨s1, hx⟩ : ∃ s1, bd_X1_quietMinutes_11 m j c1 = s1 := ⟨_, rfl⟩
    have hc2 : JV (Ev mtab mcode d) jcX1_quietMinutes (57, [(0, .ref b), (1, .int (itr (fun jz s => bd_X1_quietMinutes_11 m jz s) k (j + 1) s1))], []) (n, c, s, fm b m M) o hf := by
      subst hx
      exact hc
    clear hc
    unfold bd_X1_quietMinutes_11 at hx
    refine JV.ild (p2 := 12) rfl rfl rfl ?_
    refine JV.ald (p2 := 13) rfl rfl rfl ?_
    refine JV.getF1 (p2 := 16) rfl rfl ?_
    refine JV.brF (p2 := 19) rfl rfl rfl (by rw [hN]; exact nI_ge (a := j) (b := N) (by omega) (by omega)) ?_
    refine JV.ald (p2 := 20) rfl rfl rfl ?_
    refine JV.getFr1 (p2 := 23) rfl rfl ?_
    refine JV.ild (p2 := 24) rfl rfl rfl ?_
    refine JV.elT (p2 := 25) rfl rfl (by omega) rfl ?_
    refine JV.getT1 (p2 := 28) rfl (by omega) rfl ?_
    refine JV.stk (len := 1) (sem := (s_push (.int (-1)))) (p2 := 29) rfl rfl rfl ?_
    by_cases h29 : (m 2 j 1) = (-1)
    · rw [if_pos h29] at hx
      refine JV.brT rfl rfl h29 ?_
      refine JV.iinc (p2 := 54) rfl rfl (nI_1 _) rfl rfl ?_
      refine JV.goto rfl ?_
      subst hx
      exact ih (j + 1) _ (by omega) hc2
    · rw [if_neg h29] at hx
      refine JV.brF (p2 := 32) rfl rfl rfl h29 ?_
      refine JV.ild (p2 := 33) rfl rfl rfl ?_
      refine JV.ald (p2 := 34) rfl rfl rfl ?_
      refine JV.getF3 (p2 := 37) rfl rfl ?_
      refine JV.ald (p2 := 38) rfl rfl rfl ?_
      refine JV.getFr1 (p2 := 41) rfl rfl ?_
      refine JV.ild (p2 := 42) rfl rfl rfl ?_
      refine JV.elT (p2 := 43) rfl rfl (by omega) rfl ?_
      refine JV.getT2 (p2 := 46) rfl (by omega) rfl ?_
      refine JV.stk (len := 1) (sem := s_iadd) (p2 := 47) rfl rfl rfl ?_
      refine JV.mmin (p2 := 50) rfl (Nat.le_of_ble_eq_true rfl) rfl ?_
      refine JV.ist (p2 := 51) rfl rfl rfl ?_
      refine JV.iinc (p2 := 54) rfl rfl (nI_1 _) rfl rfl ?_
      refine JV.goto rfl ?_
      subst hx
      exact ih (j + 1) _ (by omega) hc2
theorem lq_X1_quietMinutes_11 {d n c s b : Nat} {M : JM} {o : JO} {hf : JH} {m : Mem} {N : Nat} {c1 : Int32} (hd : 1 ≤ d) (hNc : N ≤ 3) (hN : m 0 0 1 = nI N)  (hc : JV (Ev mtab mcode d) jcX1_quietMinutes (57, [(0, .ref b), (1, .int (lf_X1_quietMinutes_11 m N c1))], []) (n, c, s, fm b m M) o hf) : JV (Ev mtab mcode d) jcX1_quietMinutes (11, [(0, .ref b), (1, .int c1), (2, .int 0)], []) (n, c, s, fm b m M) o hf := by
  rw [lf_X1_quietMinutes_11_eq] at hc
  unfold ly_X1_quietMinutes_11 at hc
  exact lp_X1_quietMinutes_11 hd hNc hN N 0 c1 (by omega) hc
noncomputable def bd_X1_quietMinutes_59 (m : Mem) (j : Nat) (c1 : Int32) : Int32 := (if (m 3 j 5) = 0 then (if (m 3 j 2) < c1 then (m 3 j 2) else c1) else (if (x_X0_isOnStandOrBay m j) = true then (if (m 0 0 3) < (m 3 j 3) then (if (m 3 j 3) < c1 then (m 3 j 3) else c1) else c1) else c1))
noncomputable def ly_X1_quietMinutes_59 (m : Mem) (N : Nat) (c1 : Int32) : Int32 := itr (fun jz s => bd_X1_quietMinutes_59 m jz s) N 0 c1
theorem le_X1_quietMinutes_59 : ∃ f, f = ly_X1_quietMinutes_59 := ⟨ly_X1_quietMinutes_59, rfl⟩
noncomputable def lf_X1_quietMinutes_59 := Classical.choose le_X1_quietMinutes_59
theorem lf_X1_quietMinutes_59_eq : lf_X1_quietMinutes_59 = ly_X1_quietMinutes_59 := Classical.choose_spec le_X1_quietMinutes_59
theorem lp_X1_quietMinutes_59 {d n c s b : Nat} {M : JM} {o : JO} {hf : JH} {m : Mem} {N : Nat} (hd : 1 ≤ d) (hNc : N ≤ 12) (hN : m 0 0 2 = nI N) : ∀ (k j : Nat) (c1 : Int32), j + k = N → JV (Ev mtab mcode d) jcX1_quietMinutes (126, [(0, .ref b), (1, .int (itr (fun jz s => bd_X1_quietMinutes_59 m jz s) k j c1))], []) (n, c, s, fm b m M) o hf → JV (Ev mtab mcode d) jcX1_quietMinutes (59, [(0, .ref b), (1, .int c1), (2, .int (nI j))], []) (n, c, s, fm b m M) o hf := by
  intro k
  induction k with
  | zero =>
    intro j c1 hj hc
    refine JV.ild (p2 := 60) rfl rfl rfl ?_
    refine JV.ald (p2 := 61) rfl rfl rfl ?_
    refine JV.getF2 (p2 := 64) rfl rfl ?_
    refine JV.brT rfl rfl (by rw [hN]; exact nI_le (a := N) (b := j) (by omega) (by omega)) ?_
    exact JV.keep [0, 1] rfl hc
  | succ k ih =>
    intro j c1 hj hc
    obtain ⟨s1, hx⟩ : ∃ s1, bd_X1_quietMinutes_59 m j c1 = s1 := ⟨_, rfl⟩
    have hc2 : JV (Ev mtab mcode d) jcX1_quietMinutes (126, [(0, .ref b), (1, .int (itr (fun jz s => bd_X1_quietMinutes_59 m jz s) k (j + 1) s1))], []) (n, c, s, fm b m M) o hf := by
      subst hx
      exact hc
    clear hc
    unfold bd_X1_quietMinutes_59 at hx
    refine JV.ild (p2 := 60) rfl rfl rfl ?_
    refine JV.ald (p2 := 61) rfl rfl rfl ?_
    refine JV.getF2 (p2 := 64) rfl rfl ?_
    refine JV.brF (p2 := 67) rfl rfl rfl (by rw [hN]; exact nI_ge (a := j) (b := N) (by omega) (by omega)) ?_
    refine JV.ald (p2 := 68) rfl rfl rfl ?_
    refine JV.getFr2 (p2 := 71) rfl rfl ?_
    refine JV.ild (p2 := 72) rfl rfl rfl ?_
    refine JV.elA (p2 := 73) rfl rfl (by omega) rfl ?_
    refine JV.ast (p2 := 74) rfl rfl rfl ?_
    refine JV.ald (p2 := 75) rfl rfl rfl ?_
    refine JV.getA5 (p2 := 78) rfl (by omega) rfl ?_
    by_cases h78 : (m 3 j 5) = 0
    · rw [if_pos h78] at hx
      refine JV.brF (p2 := 81) rfl rfl rfl (fun e => e h78) ?_
      refine JV.ild (p2 := 82) rfl rfl rfl ?_
      refine JV.ald (p2 := 83) rfl rfl rfl ?_
      refine JV.getA2 (p2 := 86) rfl (by omega) rfl ?_
      refine JV.mmin (p2 := 89) rfl (Nat.le_of_ble_eq_true rfl) rfl ?_
      refine JV.ist (p2 := 90) rfl rfl rfl ?_
      refine JV.goto rfl ?_
      refine JV.iinc (p2 := 123) rfl rfl (nI_1 _) rfl rfl ?_
      refine JV.goto rfl ?_
      refine JV.keep [0, 1, 2] rfl ?_
      subst hx
      exact ih (j + 1) _ (by omega) hc2
    · rw [if_neg h78] at hx
      refine JV.brT rfl rfl h78 ?_
      refine JV.ald (p2 := 94) rfl rfl rfl ?_
      refine JV.invI (p2 := 97) rfl rfl rfl (fm_A (by omega)) (Nat.le_of_ble_eq_true rfl) rfl (ev_X0_isOnStandOrBay (by omega) (by omega) rfl) ?_
      by_cases h97 : (x_X0_isOnStandOrBay m j) = true
      · rw [if_pos h97] at hx
        refine JV.brF (p2 := 100) rfl rfl rfl (bI_t h97) ?_
        refine JV.ald (p2 := 101) rfl rfl rfl ?_
        refine JV.getA3 (p2 := 104) rfl (by omega) rfl ?_
        refine JV.ald (p2 := 105) rfl rfl rfl ?_
        refine JV.getF3 (p2 := 108) rfl rfl ?_
        by_cases h108 : (m 0 0 3) < (m 3 j 3)
        · rw [if_pos h108] at hx
          refine JV.brF (p2 := 111) rfl rfl rfl (Int32.not_le.mpr h108) ?_
          refine JV.ild (p2 := 112) rfl rfl rfl ?_
          refine JV.ald (p2 := 113) rfl rfl rfl ?_
          refine JV.getA3 (p2 := 116) rfl (by omega) rfl ?_
          refine JV.mmin (p2 := 119) rfl (Nat.le_of_ble_eq_true rfl) rfl ?_
          refine JV.ist (p2 := 120) rfl rfl rfl ?_
          refine JV.iinc (p2 := 123) rfl rfl (nI_1 _) rfl rfl ?_
          refine JV.goto rfl ?_
          refine JV.keep [0, 1, 2] rfl ?_
          subst hx
          exact ih (j + 1) _ (by omega) hc2
        · rw [if_neg h108] at hx
          refine JV.brT rfl rfl (Int32.not_lt.mp h108) ?_
          refine JV.iinc (p2 := 123) rfl rfl (nI_1 _) rfl rfl ?_
          refine JV.goto rfl ?_
          refine JV.keep [0, 1, 2] rfl ?_
          subst hx
          exact ih (j + 1) _ (by omega) hc2
      · rw [if_neg h97] at hx
        refine JV.brT rfl rfl (bI_f h97) ?_
        refine JV.iinc (p2 := 123) rfl rfl (nI_1 _) rfl rfl ?_
        refine JV.goto rfl ?_
        refine JV.keep [0, 1, 2] rfl ?_
        subst hx
        exact ih (j + 1) _ (by omega) hc2
theorem lq_X1_quietMinutes_59 {d n c s b : Nat} {M : JM} {o : JO} {hf : JH} {m : Mem} {N : Nat} {c1 : Int32} (hd : 1 ≤ d) (hNc : N ≤ 12) (hN : m 0 0 2 = nI N)  (hc : JV (Ev mtab mcode d) jcX1_quietMinutes (126, [(0, .ref b), (1, .int (lf_X1_quietMinutes_59 m N c1))], []) (n, c, s, fm b m M) o hf) : JV (Ev mtab mcode d) jcX1_quietMinutes (59, [(0, .ref b), (1, .int c1), (2, .int 0)], []) (n, c, s, fm b m M) o hf := by
  rw [lf_X1_quietMinutes_59_eq] at hc
  unfold ly_X1_quietMinutes_59 at hc
  exact lp_X1_quietMinutes_59 hd hNc hN N 0 c1 (by omega) hc
noncomputable def y_X1_quietMinutes (m : Mem) : Int32 := (if (x_X1_isCurfew m) = true then (((if (((m 0 0 3) - ((m 0 0 3) - (m 0 0 3) / 1440 * 1440)) + (m 0 0 5)) < (lf_X1_quietMinutes_59 m (ix (m 0 0 2)) (lf_X1_quietMinutes_11 m (ix (m 0 0 1)) ((m 0 0 3) + 3000))) then (((m 0 0 3) - ((m 0 0 3) - (m 0 0 3) / 1440 * 1440)) + (m 0 0 5)) else (lf_X1_quietMinutes_59 m (ix (m 0 0 2)) (lf_X1_quietMinutes_11 m (ix (m 0 0 1)) ((m 0 0 3) + 3000)))) - (m 0 0 3)) - 1) else (((lf_X1_quietMinutes_59 m (ix (m 0 0 2)) (lf_X1_quietMinutes_11 m (ix (m 0 0 1)) ((m 0 0 3) + 3000))) - (m 0 0 3)) - 1))
theorem xe_X1_quietMinutes : ∃ f, f = y_X1_quietMinutes := ⟨y_X1_quietMinutes, rfl⟩
noncomputable def x_X1_quietMinutes := Classical.choose xe_X1_quietMinutes
theorem x_X1_quietMinutes_eq : x_X1_quietMinutes = y_X1_quietMinutes := Classical.choose_spec xe_X1_quietMinutes
theorem ev_X1_quietMinutes {d n c s b : Nat} {m : Mem} {M : JM}  {res : Int32} (hd : 2 ≤ d) (hF : FK m) (hx : x_X1_quietMinutes m = res) : Ev mtab mcode d 16 [.ref b] (n, c, s, fm b m M) (.inl (some (.int res))) (n, c, s, fm b m M) := by
  obtain ⟨d, rfl⟩ : ∃ e, d = e + 1 := ⟨d - 1, by omega⟩
  rw [x_X1_quietMinutes_eq] at hx
  unfold y_X1_quietMinutes at hx
  refine jv_mk (m := mX1_quietMinutes) (cd := jcX1_quietMinutes) rfl rfl (Nat.le_of_ble_eq_true rfl) trivial ?_
  refine JV.ald (p2 := 1) rfl rfl rfl ?_
  refine JV.getF3 (p2 := 4) rfl rfl ?_
  refine JV.stk (len := 3) (sem := (s_push (.int 3000))) (p2 := 7) rfl rfl rfl ?_
  refine JV.stk (len := 1) (sem := s_iadd) (p2 := 8) rfl rfl rfl ?_
  refine JV.ist (p2 := 9) rfl rfl rfl ?_
  refine JV.stk (len := 1) (sem := (s_push (.int 0))) (p2 := 10) rfl rfl rfl ?_
  refine JV.ist (p2 := 11) rfl rfl rfl ?_
  refine lq_X1_quietMinutes_11 (c1 := ((m 0 0 3) + 3000)) (N := (ix (m 0 0 1))) (m := m) (by omega) hF.nt.2 hF.nt.1 ?_
  refine JV.stk (len := 1) (sem := (s_push (.int 0))) (p2 := 58) rfl rfl rfl ?_
  refine JV.ist (p2 := 59) rfl rfl rfl ?_
  refine lq_X1_quietMinutes_59 (c1 := (lf_X1_quietMinutes_11 m (ix (m 0 0 1)) ((m 0 0 3) + 3000))) (N := (ix (m 0 0 2))) (m := m) (by omega) hF.na.2 hF.na.1 ?_
  refine JV.ald (p2 := 127) rfl rfl rfl ?_
  refine JV.invI (p2 := 130) rfl rfl rfl fm_F (Nat.le_of_ble_eq_true rfl) rfl (ev_X1_isCurfew (by omega) rfl) ?_
  by_cases h130 : (x_X1_isCurfew m) = true
  · rw [if_pos h130] at hx
    refine JV.brF (p2 := 133) rfl rfl rfl (bI_t h130) ?_
    refine JV.ild (p2 := 134) rfl rfl rfl ?_
    refine JV.ald (p2 := 135) rfl rfl rfl ?_
    refine JV.getF3 (p2 := 138) rfl rfl ?_
    refine JV.ald (p2 := 139) rfl rfl rfl ?_
    refine JV.getF3 (p2 := 142) rfl rfl ?_
    refine JV.stk (len := 3) (sem := (s_push (.int 1440))) (p2 := 145) rfl rfl rfl ?_
    refine JV.stk (len := 1) (sem := s_irem) (p2 := 146) rfl rfl rfl ?_
    refine JV.stk (len := 1) (sem := s_isub) (p2 := 147) rfl rfl rfl ?_
    refine JV.ald (p2 := 148) rfl rfl rfl ?_
    refine JV.getF5 (p2 := 151) rfl rfl ?_
    refine JV.stk (len := 1) (sem := s_iadd) (p2 := 152) rfl rfl rfl ?_
    refine JV.mmin (p2 := 155) rfl (Nat.le_of_ble_eq_true rfl) rfl ?_
    refine JV.ist (p2 := 156) rfl rfl rfl ?_
    refine JV.ild (p2 := 157) rfl rfl rfl ?_
    refine JV.ald (p2 := 158) rfl rfl rfl ?_
    refine JV.getF3 (p2 := 161) rfl rfl ?_
    refine JV.stk (len := 1) (sem := s_isub) (p2 := 162) rfl rfl rfl ?_
    refine JV.stk (len := 1) (sem := (s_push (.int 1))) (p2 := 163) rfl rfl rfl ?_
    refine JV.stk (len := 1) (sem := s_isub) (p2 := 164) rfl rfl rfl ?_
    subst hx
    exact JV.ret rfl (fun _ => rfl) rfl rfl
  · rw [if_neg h130] at hx
    refine JV.brT rfl rfl (bI_f h130) ?_
    refine JV.ild (p2 := 157) rfl rfl rfl ?_
    refine JV.ald (p2 := 158) rfl rfl rfl ?_
    refine JV.getF3 (p2 := 161) rfl rfl ?_
    refine JV.stk (len := 1) (sem := s_isub) (p2 := 162) rfl rfl rfl ?_
    refine JV.stk (len := 1) (sem := (s_push (.int 1))) (p2 := 163) rfl rfl rfl ?_
    refine JV.stk (len := 1) (sem := s_isub) (p2 := 164) rfl rfl rfl ?_
    subst hx
    exact JV.ret rfl (fun _ => rfl) rfl rfl
