/-! what the field's methods answer -/
def VN (k : Nat) (x : Int32) : Prop := x = nI (ix x) ∧ ix x ≤ k
def VX (k : Nat) (x : Int32) : Prop := x = -1 ∨ (x = nI (ix x) ∧ ix x < k)
def FK (m : Mem) : Prop := VN 6 (m 0 0 0) ∧ VN 3 (m 0 0 1) ∧ VN 12 (m 0 0 2) ∧ (∀ j, j < 6 → VX 12 (m 1 j 1)) ∧ (∀ j, j < 3 → VX 12 (m 2 j 1)) ∧ ∀ j, j < 12 → VX 6 (m 3 j 6)
theorem FK.ns {m : Mem} (h : FK m) : VN 6 (m 0 0 0) := h.1
theorem FK.nt {m : Mem} (h : FK m) : VN 3 (m 0 0 1) := h.2.1
theorem FK.na {m : Mem} (h : FK m) : VN 12 (m 0 0 2) := h.2.2.1
theorem FK.st {m : Mem} (h : FK m) {j : Nat} (hj : j < 6) : VX 12 (m 1 j 1) := h.2.2.2.1 j hj
theorem FK.tu {m : Mem} (h : FK m) {j : Nat} (hj : j < 3) : VX 12 (m 2 j 1) := h.2.2.2.2.1 j hj
theorem FK.ac {m : Mem} (h : FK m) {j : Nat} (hj : j < 12) : VX 6 (m 3 j 6) := h.2.2.2.2.2 j hj
theorem VN.eq {k : Nat} {x : Int32} (h : VN k x) : x = nI (ix x) := h.1
theorem VX.eq {k : Nat} {x : Int32} (h : VX k x) (g : ¬ x = -1) : x = nI (ix x) := h.resolve_left g |>.1
theorem VX.lt {k : Nat} {x : Int32} (h : VX k x) (g : ¬ x = -1) : ix x < k := h.resolve_left g |>.2
theorem ix_eq {x : Int32} (h : ¬ x < 0) : x = nI (ix x) := by
  obtain ⟨j, hj, e⟩ := nI_of h
  subst e
  rw [ix_nI hj]
theorem ix_ltN {k : Nat} {x y : Int32} (h : ¬ x < 0) (g : x < y) (hy : VN k y) (hk : k < 2 ^ 31) : ix x < k := by
  obtain ⟨j, hj, e⟩ := nI_of h
  subst e
  rw [hy.1] at g
  have hb := hy.2
  have := (nI_ltI hj (show ix y < 2 ^ 31 by omega)).mp g
  rw [ix_nI hj]
  omega
noncomputable def y_X1_hasStand (m : Mem) (p1 : Int32) : Bool := (if p1 < 0 then false else (if p1 < (m 0 0 0) then true else false))
theorem xe_X1_hasStand : ∃ f, f = y_X1_hasStand := ⟨y_X1_hasStand, rfl⟩
noncomputable def x_X1_hasStand := Classical.choose xe_X1_hasStand
theorem x_X1_hasStand_eq : x_X1_hasStand = y_X1_hasStand := Classical.choose_spec xe_X1_hasStand
theorem ev_X1_hasStand {d n c s b : Nat} {m : Mem} {M : JM} {p1 : Int32} {res : Bool} (hd : 1 ≤ d)  (hx : x_X1_hasStand m p1 = res) : Ev mtab mcode d 10 [.ref b, .int p1] (n, c, s, fm b m M) (.inl (some (.int (bI res)))) (n, c, s, fm b m M) := by
  obtain ⟨d, rfl⟩ : ∃ e, d = e + 1 := ⟨d - 1, by omega⟩
  rw [x_X1_hasStand_eq] at hx
  unfold y_X1_hasStand at hx
  refine jv_mk (m := mX1_hasStand) (cd := jcX1_hasStand) rfl rfl (Nat.le_of_ble_eq_true rfl) (bI_or _) ?_
  refine JV.ild (p2 := 1) rfl rfl rfl ?_
  by_cases h1 : p1 < 0
  · rw [if_pos h1] at hx
    refine JV.brT rfl rfl h1 ?_
    refine JV.stk (len := 1) (sem := (s_push (.int 0))) (p2 := 17) rfl rfl rfl ?_
    subst hx
    exact JV.ret rfl (fun _ => rfl) rfl rfl
  · rw [if_neg h1] at hx
    refine JV.brF (p2 := 4) rfl rfl rfl h1 ?_
    refine JV.ild (p2 := 5) rfl rfl rfl ?_
    refine JV.ald (p2 := 6) rfl rfl rfl ?_
    refine JV.getF0 (p2 := 9) rfl rfl ?_
    by_cases h9 : p1 < (m 0 0 0)
    · rw [if_pos h9] at hx
      refine JV.brF (p2 := 12) rfl rfl rfl (Int32.not_le.mpr h9) ?_
      refine JV.stk (len := 1) (sem := (s_push (.int 1))) (p2 := 13) rfl rfl rfl ?_
      refine JV.goto rfl ?_
      subst hx
      exact JV.ret rfl (fun _ => rfl) rfl rfl
    · rw [if_neg h9] at hx
      refine JV.brT rfl rfl (Int32.not_lt.mp h9) ?_
      refine JV.stk (len := 1) (sem := (s_push (.int 0))) (p2 := 17) rfl rfl rfl ?_
      subst hx
      exact JV.ret rfl (fun _ => rfl) rfl rfl
noncomputable def y_X1_hasTug (m : Mem) (p1 : Int32) : Bool := (if p1 < 0 then false else (if p1 < (m 0 0 1) then true else false))
theorem xe_X1_hasTug : ∃ f, f = y_X1_hasTug := ⟨y_X1_hasTug, rfl⟩
noncomputable def x_X1_hasTug := Classical.choose xe_X1_hasTug
theorem x_X1_hasTug_eq : x_X1_hasTug = y_X1_hasTug := Classical.choose_spec xe_X1_hasTug
theorem ev_X1_hasTug {d n c s b : Nat} {m : Mem} {M : JM} {p1 : Int32} {res : Bool} (hd : 1 ≤ d)  (hx : x_X1_hasTug m p1 = res) : Ev mtab mcode d 11 [.ref b, .int p1] (n, c, s, fm b m M) (.inl (some (.int (bI res)))) (n, c, s, fm b m M) := by
  obtain ⟨d, rfl⟩ : ∃ e, d = e + 1 := ⟨d - 1, by omega⟩
  rw [x_X1_hasTug_eq] at hx
  unfold y_X1_hasTug at hx
  refine jv_mk (m := mX1_hasTug) (cd := jcX1_hasTug) rfl rfl (Nat.le_of_ble_eq_true rfl) (bI_or _) ?_
  refine JV.ild (p2 := 1) rfl rfl rfl ?_
  by_cases h1 : p1 < 0
  · rw [if_pos h1] at hx
    refine JV.brT rfl rfl h1 ?_
    refine JV.stk (len := 1) (sem := (s_push (.int 0))) (p2 := 17) rfl rfl rfl ?_
    subst hx
    exact JV.ret rfl (fun _ => rfl) rfl rfl
  · rw [if_neg h1] at hx
    refine JV.brF (p2 := 4) rfl rfl rfl h1 ?_
    refine JV.ild (p2 := 5) rfl rfl rfl ?_
    refine JV.ald (p2 := 6) rfl rfl rfl ?_
    refine JV.getF1 (p2 := 9) rfl rfl ?_
    by_cases h9 : p1 < (m 0 0 1)
    · rw [if_pos h9] at hx
      refine JV.brF (p2 := 12) rfl rfl rfl (Int32.not_le.mpr h9) ?_
      refine JV.stk (len := 1) (sem := (s_push (.int 1))) (p2 := 13) rfl rfl rfl ?_
      refine JV.goto rfl ?_
      subst hx
      exact JV.ret rfl (fun _ => rfl) rfl rfl
    · rw [if_neg h9] at hx
      refine JV.brT rfl rfl (Int32.not_lt.mp h9) ?_
      refine JV.stk (len := 1) (sem := (s_push (.int 0))) (p2 := 17) rfl rfl rfl ?_
      subst hx
      exact JV.ret rfl (fun _ => rfl) rfl rfl
noncomputable def y_X1_hasAircraft (m : Mem) (p1 : Int32) : Bool := (if p1 < 0 then false else (if p1 < (m 0 0 2) then true else false))
theorem xe_X1_hasAircraft : ∃ f, f = y_X1_hasAircraft := ⟨y_X1_hasAircraft, rfl⟩
noncomputable def x_X1_hasAircraft := Classical.choose xe_X1_hasAircraft
theorem x_X1_hasAircraft_eq : x_X1_hasAircraft = y_X1_hasAircraft := Classical.choose_spec xe_X1_hasAircraft
theorem ev_X1_hasAircraft {d n c s b : Nat} {m : Mem} {M : JM} {p1 : Int32} {res : Bool} (hd : 1 ≤ d)  (hx : x_X1_hasAircraft m p1 = res) : Ev mtab mcode d 12 [.ref b, .int p1] (n, c, s, fm b m M) (.inl (some (.int (bI res)))) (n, c, s, fm b m M) := by
  obtain ⟨d, rfl⟩ : ∃ e, d = e + 1 := ⟨d - 1, by omega⟩
  rw [x_X1_hasAircraft_eq] at hx
  unfold y_X1_hasAircraft at hx
  refine jv_mk (m := mX1_hasAircraft) (cd := jcX1_hasAircraft) rfl rfl (Nat.le_of_ble_eq_true rfl) (bI_or _) ?_
  refine JV.ild (p2 := 1) rfl rfl rfl ?_
  by_cases h1 : p1 < 0
  · rw [if_pos h1] at hx
    refine JV.brT rfl rfl h1 ?_
    refine JV.stk (len := 1) (sem := (s_push (.int 0))) (p2 := 17) rfl rfl rfl ?_
    subst hx
    exact JV.ret rfl (fun _ => rfl) rfl rfl
  · rw [if_neg h1] at hx
    refine JV.brF (p2 := 4) rfl rfl rfl h1 ?_
    refine JV.ild (p2 := 5) rfl rfl rfl ?_
    refine JV.ald (p2 := 6) rfl rfl rfl ?_
    refine JV.getF2 (p2 := 9) rfl rfl ?_
    by_cases h9 : p1 < (m 0 0 2)
    · rw [if_pos h9] at hx
      refine JV.brF (p2 := 12) rfl rfl rfl (Int32.not_le.mpr h9) ?_
      refine JV.stk (len := 1) (sem := (s_push (.int 1))) (p2 := 13) rfl rfl rfl ?_
      refine JV.goto rfl ?_
      subst hx
      exact JV.ret rfl (fun _ => rfl) rfl rfl
    · rw [if_neg h9] at hx
      refine JV.brT rfl rfl (Int32.not_lt.mp h9) ?_
      refine JV.stk (len := 1) (sem := (s_push (.int 0))) (p2 := 17) rfl rfl rfl ?_
      subst hx
      exact JV.ret rfl (fun _ => rfl) rfl rfl
noncomputable def y_X1_turn (m : Mem) (q : Nat) : Int32 := (((m 3 q 3) * 12) + (nI q))
theorem xe_X1_turn : ∃ f, f = y_X1_turn := ⟨y_X1_turn, rfl⟩
noncomputable def x_X1_turn := Classical.choose xe_X1_turn
theorem x_X1_turn_eq : x_X1_turn = y_X1_turn := Classical.choose_spec xe_X1_turn
theorem ev_X1_turn {d n c s b : Nat} {m : Mem} {M : JM} {q : Nat} {v_q : Int32} {res : Int32} (hd : 1 ≤ d) (e_q : v_q = nI q) (hq : q < 12) (hx : x_X1_turn m q = res) : Ev mtab mcode d 21 [.ref b, .int v_q] (n, c, s, fm b m M) (.inl (some (.int res))) (n, c, s, fm b m M) := by
  obtain ⟨d, rfl⟩ : ∃ e, d = e + 1 := ⟨d - 1, by omega⟩
  subst e_q
  rw [x_X1_turn_eq] at hx
  unfold y_X1_turn at hx
  refine jv_mk (m := mX1_turn) (cd := jcX1_turn) rfl rfl (Nat.le_of_ble_eq_true rfl) trivial ?_
  refine JV.ald (p2 := 1) rfl rfl rfl ?_
  refine JV.getFr2 (p2 := 4) rfl rfl ?_
  refine JV.ild (p2 := 5) rfl rfl rfl ?_
  refine JV.elA (p2 := 6) rfl rfl (by omega) rfl ?_
  refine JV.getA3 (p2 := 9) rfl (by omega) rfl ?_
  refine JV.stk (len := 2) (sem := (s_push (.int 12))) (p2 := 11) rfl rfl rfl ?_
  refine JV.stk (len := 1) (sem := s_imul) (p2 := 12) rfl rfl rfl ?_
  refine JV.ild (p2 := 13) rfl rfl rfl ?_
  refine JV.stk (len := 1) (sem := s_iadd) (p2 := 14) rfl rfl rfl ?_
  subst hx
  exact JV.ret rfl (fun _ => rfl) rfl rfl
noncomputable def y_X1_isCurfew (m : Mem) : Bool := (if ((m 0 0 3) - (m 0 0 3) / 1440 * 1440) < (m 0 0 4) then false else (if ((m 0 0 3) - (m 0 0 3) / 1440 * 1440) < (m 0 0 5) then true else false))
theorem xe_X1_isCurfew : ∃ f, f = y_X1_isCurfew := ⟨y_X1_isCurfew, rfl⟩
noncomputable def x_X1_isCurfew := Classical.choose xe_X1_isCurfew
theorem x_X1_isCurfew_eq : x_X1_isCurfew = y_X1_isCurfew := Classical.choose_spec xe_X1_isCurfew
theorem ev_X1_isCurfew {d n c s b : Nat} {m : Mem} {M : JM}  {res : Bool} (hd : 1 ≤ d)  (hx : x_X1_isCurfew m = res) : Ev mtab mcode d 29 [.ref b] (n, c, s, fm b m M) (.inl (some (.int (bI res)))) (n, c, s, fm b m M) := by
  obtain ⟨d, rfl⟩ : ∃ e, d = e + 1 := ⟨d - 1, by omega⟩
  rw [x_X1_isCurfew_eq] at hx
  unfold y_X1_isCurfew at hx
  refine jv_mk (m := mX1_isCurfew) (cd := jcX1_isCurfew) rfl rfl (Nat.le_of_ble_eq_true rfl) (bI_or _) ?_
  refine JV.ald (p2 := 1) rfl rfl rfl ?_
  refine JV.getF3 (p2 := 4) rfl rfl ?_
  refine JV.stk (len := 3) (sem := (s_push (.int 1440))) (p2 := 7) rfl rfl rfl ?_
  refine JV.stk (len := 1) (sem := s_irem) (p2 := 8) rfl rfl rfl ?_
  refine JV.ist (p2 := 9) rfl rfl rfl ?_
  refine JV.ild (p2 := 10) rfl rfl rfl ?_
  refine JV.ald (p2 := 11) rfl rfl rfl ?_
  refine JV.getF4 (p2 := 14) rfl rfl ?_
  by_cases h14 : ((m 0 0 3) - (m 0 0 3) / 1440 * 1440) < (m 0 0 4)
  · rw [if_pos h14] at hx
    refine JV.brT rfl rfl h14 ?_
    refine JV.stk (len := 1) (sem := (s_push (.int 0))) (p2 := 30) rfl rfl rfl ?_
    subst hx
    exact JV.ret rfl (fun _ => rfl) rfl rfl
  · rw [if_neg h14] at hx
    refine JV.brF (p2 := 17) rfl rfl rfl h14 ?_
    refine JV.ild (p2 := 18) rfl rfl rfl ?_
    refine JV.ald (p2 := 19) rfl rfl rfl ?_
    refine JV.getF5 (p2 := 22) rfl rfl ?_
    by_cases h22 : ((m 0 0 3) - (m 0 0 3) / 1440 * 1440) < (m 0 0 5)
    · rw [if_pos h22] at hx
      refine JV.brF (p2 := 25) rfl rfl rfl (Int32.not_le.mpr h22) ?_
      refine JV.stk (len := 1) (sem := (s_push (.int 1))) (p2 := 26) rfl rfl rfl ?_
      refine JV.goto rfl ?_
      subst hx
      exact JV.ret rfl (fun _ => rfl) rfl rfl
    · rw [if_neg h22] at hx
      refine JV.brT rfl rfl (Int32.not_lt.mp h22) ?_
      refine JV.stk (len := 1) (sem := (s_push (.int 0))) (p2 := 30) rfl rfl rfl ?_
      subst hx
      exact JV.ret rfl (fun _ => rfl) rfl rfl
noncomputable def bd_X1_countAt_4 (m : Mem) (w1 : Int32) (j : Nat) (c2 : Int32) : Int32 := (if (m 3 j 5) = w1 then (c2 + 1) else c2)
noncomputable def ly_X1_countAt_4 (m : Mem) (w1 : Int32) (N : Nat) (c2 : Int32) : Int32 := itr (fun jz s => bd_X1_countAt_4 m w1 jz s) N 0 c2
theorem le_X1_countAt_4 : ∃ f, f = ly_X1_countAt_4 := ⟨ly_X1_countAt_4, rfl⟩
noncomputable def lf_X1_countAt_4 := Classical.choose le_X1_countAt_4
theorem lf_X1_countAt_4_eq : lf_X1_countAt_4 = ly_X1_countAt_4 := Classical.choose_spec le_X1_countAt_4
theorem lp_X1_countAt_4 {d n c s b : Nat} {M : JM} {o : JO} {hf : JH} {m : Mem} {w1 : Int32} {N : Nat} (hd : 0 ≤ d) (hNc : N ≤ 12) (hN : m 0 0 2 = nI N) : ∀ (k j : Nat) (c2 : Int32), j + k = N → JV (Ev mtab mcode d) jcX1_countAt (34, [(0, .ref b), (1, .int w1), (2, .int (itr (fun jz s => bd_X1_countAt_4 m w1 jz s) k j c2))], []) (n, c, s, fm b m M) o hf → JV (Ev mtab mcode d) jcX1_countAt (4, [(0, .ref b), (1, .int w1), (2, .int c2), (3, .int (nI j))], []) (n, c, s, fm b m M) o hf := by
  intro k
  induction k with
  | zero =>
    intro j c2 hj hc
    refine JV.ild (p2 := 5) rfl rfl rfl ?_
    refine JV.ald (p2 := 6) rfl rfl rfl ?_
    refine JV.getF2 (p2 := 9) rfl rfl ?_
    refine JV.brT rfl rfl (by rw [hN]; exact nI_le (a := N) (b := j) (by omega) (by omega)) ?_
    exact JV.keep [0, 1, 2] rfl hc
  | succ k ih =>
    intro j c2 hj hc
    obtain ⟨s1, hx⟩ : ∃ s1, bd_X1_countAt_4 m w1 j c2 = s1 := ⟨_, rfl⟩
    have hc2 : JV (Ev mtab mcode d) jcX1_countAt (34, [(0, .ref b), (1, .int w1), (2, .int (itr (fun jz s => bd_X1_countAt_4 m w1 jz s) k (j + 1) s1))], []) (n, c, s, fm b m M) o hf := by
      subst hx
      exact hc
    clear hc
    unfold bd_X1_countAt_4 at hx
    refine JV.ild (p2 := 5) rfl rfl rfl ?_
    refine JV.ald (p2 := 6) rfl rfl rfl ?_
    refine JV.getF2 (p2 := 9) rfl rfl ?_
    refine JV.brF (p2 := 12) rfl rfl rfl (by rw [hN]; exact nI_ge (a := j) (b := N) (by omega) (by omega)) ?_
    refine JV.ald (p2 := 13) rfl rfl rfl ?_
    refine JV.getFr2 (p2 := 16) rfl rfl ?_
    refine JV.ild (p2 := 17) rfl rfl rfl ?_
    refine JV.elA (p2 := 18) rfl rfl (by omega) rfl ?_
    refine JV.getA5 (p2 := 21) rfl (by omega) rfl ?_
    refine JV.ild (p2 := 22) rfl rfl rfl ?_
    by_cases h22 : (m 3 j 5) = w1
    · rw [if_pos h22] at hx
      refine JV.brF (p2 := 25) rfl rfl rfl (fun e => e h22) ?_
      refine JV.iinc (p2 := 28) rfl rfl rfl rfl rfl ?_
      refine JV.iinc (p2 := 31) rfl rfl (nI_1 _) rfl rfl ?_
      refine JV.goto rfl ?_
      subst hx
      exact ih (j + 1) _ (by omega) hc2
    · rw [if_neg h22] at hx
      refine JV.brT rfl rfl h22 ?_
      refine JV.iinc (p2 := 31) rfl rfl (nI_1 _) rfl rfl ?_
      refine JV.goto rfl ?_
      subst hx
      exact ih (j + 1) _ (by omega) hc2
theorem lq_X1_countAt_4 {d n c s b : Nat} {M : JM} {o : JO} {hf : JH} {m : Mem} {w1 : Int32} {N : Nat} {c2 : Int32} (hd : 0 ≤ d) (hNc : N ≤ 12) (hN : m 0 0 2 = nI N)  (hc : JV (Ev mtab mcode d) jcX1_countAt (34, [(0, .ref b), (1, .int w1), (2, .int (lf_X1_countAt_4 m w1 N c2))], []) (n, c, s, fm b m M) o hf) : JV (Ev mtab mcode d) jcX1_countAt (4, [(0, .ref b), (1, .int w1), (2, .int c2), (3, .int 0)], []) (n, c, s, fm b m M) o hf := by
  rw [lf_X1_countAt_4_eq] at hc
  unfold ly_X1_countAt_4 at hc
  exact lp_X1_countAt_4 hd hNc hN N 0 c2 (by omega) hc
noncomputable def y_X1_countAt (m : Mem) (p1 : Int32) : Int32 := (lf_X1_countAt_4 m p1 (ix (m 0 0 2)) 0)
theorem xe_X1_countAt : ∃ f, f = y_X1_countAt := ⟨y_X1_countAt, rfl⟩
noncomputable def x_X1_countAt := Classical.choose xe_X1_countAt
theorem x_X1_countAt_eq : x_X1_countAt = y_X1_countAt := Classical.choose_spec xe_X1_countAt
theorem ev_X1_countAt {d n c s b : Nat} {m : Mem} {M : JM} {p1 : Int32} {res : Int32} (hd : 1 ≤ d) (hF : FK m) (hx : x_X1_countAt m p1 = res) : Ev mtab mcode d 33 [.ref b, .int p1] (n, c, s, fm b m M) (.inl (some (.int res))) (n, c, s, fm b m M) := by
  obtain ⟨d, rfl⟩ : ∃ e, d = e + 1 := ⟨d - 1, by omega⟩
  rw [x_X1_countAt_eq] at hx
  unfold y_X1_countAt at hx
  refine jv_mk (m := mX1_countAt) (cd := jcX1_countAt) rfl rfl (Nat.le_of_ble_eq_true rfl) trivial ?_
  refine JV.stk (len := 1) (sem := (s_push (.int 0))) (p2 := 1) rfl rfl rfl ?_
  refine JV.ist (p2 := 2) rfl rfl rfl ?_
  refine JV.stk (len := 1) (sem := (s_push (.int 0))) (p2 := 3) rfl rfl rfl ?_
  refine JV.ist (p2 := 4) rfl rfl rfl ?_
  refine lq_X1_countAt_4 (c2 := 0) (N := (ix (m 0 0 2))) (m := m) (w1 := p1) (by omega) hF.na.2 hF.na.1 ?_
  refine JV.ild (p2 := 35) rfl rfl rfl ?_
  subst hx
  exact JV.ret rfl (fun _ => rfl) rfl rfl
noncomputable def bd_X1_sumOfDelays_4 (m : Mem) (j : Nat) (c1 : Int32) : Int32 := (c1 + (if 0 < (m 3 j 7) then (m 3 j 7) else 0))
noncomputable def ly_X1_sumOfDelays_4 (m : Mem) (N : Nat) (c1 : Int32) : Int32 := itr (fun jz s => bd_X1_sumOfDelays_4 m jz s) N 0 c1
theorem le_X1_sumOfDelays_4 : ∃ f, f = ly_X1_sumOfDelays_4 := ⟨ly_X1_sumOfDelays_4, rfl⟩
noncomputable def lf_X1_sumOfDelays_4 := Classical.choose le_X1_sumOfDelays_4
theorem lf_X1_sumOfDelays_4_eq : lf_X1_sumOfDelays_4 = ly_X1_sumOfDelays_4 := Classical.choose_spec le_X1_sumOfDelays_4
theorem lp_X1_sumOfDelays_4 {d n c s b : Nat} {M : JM} {o : JO} {hf : JH} {m : Mem} {N : Nat} (hd : 0 ≤ d) (hNc : N ≤ 12) (hN : m 0 0 2 = nI N) : ∀ (k j : Nat) (c1 : Int32), j + k = N → JV (Ev mtab mcode d) jcX1_sumOfDelays (34, [(0, .ref b), (1, .int (itr (fun jz s => bd_X1_sumOfDelays_4 m jz s) k j c1))], []) (n, c, s, fm b m M) o hf → JV (Ev mtab mcode d) jcX1_sumOfDelays (4, [(0, .ref b), (1, .int c1), (2, .int (nI j))], []) (n, c, s, fm b m M) o hf := by
  intro k
  induction k with
  | zero =>
    intro j c1 hj hc
    refine JV.ild (p2 := 5) rfl rfl rfl ?_
    refine JV.ald (p2 := 6) rfl rfl rfl ?_
    refine JV.getF2 (p2 := 9) rfl rfl ?_
    refine JV.brT rfl rfl (by rw [hN]; exact nI_le (a := N) (b := j) (by omega) (by omega)) ?_
    exact JV.keep [0, 1] rfl hc
  | succ k ih =>
    intro j c1 hj hc
    obtain ⟨s1, hx⟩ : ∃ s1, bd_X1_sumOfDelays_4 m j c1 = s1 := ⟨_, rfl⟩
    have hc2 : JV (Ev mtab mcode d) jcX1_sumOfDelays (34, [(0, .ref b), (1, .int (itr (fun jz s => bd_X1_sumOfDelays_4 m jz s) k (j + 1) s1))], []) (n, c, s, fm b m M) o hf := by
      subst hx
      exact hc
    clear hc
    unfold bd_X1_sumOfDelays_4 at hx
    refine JV.ild (p2 := 5) rfl rfl rfl ?_
    refine JV.ald (p2 := 6) rfl rfl rfl ?_
    refine JV.getF2 (p2 := 9) rfl rfl ?_
    refine JV.brF (p2 := 12) rfl rfl rfl (by rw [hN]; exact nI_ge (a := j) (b := N) (by omega) (by omega)) ?_
    refine JV.ild (p2 := 13) rfl rfl rfl ?_
    refine JV.stk (len := 1) (sem := (s_push (.int 0))) (p2 := 14) rfl rfl rfl ?_
    refine JV.ald (p2 := 15) rfl rfl rfl ?_
    refine JV.getFr2 (p2 := 18) rfl rfl ?_
    refine JV.ild (p2 := 19) rfl rfl rfl ?_
    refine JV.elA (p2 := 20) rfl rfl (by omega) rfl ?_
    refine JV.getA7 (p2 := 23) rfl (by omega) rfl ?_
    refine JV.mmax (p2 := 26) rfl (Nat.le_of_ble_eq_true rfl) rfl ?_
    refine JV.stk (len := 1) (sem := s_iadd) (p2 := 27) rfl rfl rfl ?_
    refine JV.ist (p2 := 28) rfl rfl rfl ?_
    refine JV.iinc (p2 := 31) rfl rfl (nI_1 _) rfl rfl ?_
    refine JV.goto rfl ?_
    subst hx
    exact ih (j + 1) _ (by omega) hc2
theorem lq_X1_sumOfDelays_4 {d n c s b : Nat} {M : JM} {o : JO} {hf : JH} {m : Mem} {N : Nat} {c1 : Int32} (hd : 0 ≤ d) (hNc : N ≤ 12) (hN : m 0 0 2 = nI N)  (hc : JV (Ev mtab mcode d) jcX1_sumOfDelays (34, [(0, .ref b), (1, .int (lf_X1_sumOfDelays_4 m N c1))], []) (n, c, s, fm b m M) o hf) : JV (Ev mtab mcode d) jcX1_sumOfDelays (4, [(0, .ref b), (1, .int c1), (2, .int 0)], []) (n, c, s, fm b m M) o hf := by
  rw [lf_X1_sumOfDelays_4_eq] at hc
  unfold ly_X1_sumOfDelays_4 at hc
  exact lp_X1_sumOfDelays_4 hd hNc hN N 0 c1 (by omega) hc
noncomputable def y_X1_sumOfDelays (m : Mem) : Int32 := (lf_X1_sumOfDelays_4 m (ix (m 0 0 2)) 0)
theorem xe_X1_sumOfDelays : ∃ f, f = y_X1_sumOfDelays := ⟨y_X1_sumOfDelays, rfl⟩
noncomputable def x_X1_sumOfDelays := Classical.choose xe_X1_sumOfDelays
theorem x_X1_sumOfDelays_eq : x_X1_sumOfDelays = y_X1_sumOfDelays := Classical.choose_spec xe_X1_sumOfDelays
theorem ev_X1_sumOfDelays {d n c s b : Nat} {m : Mem} {M : JM}  {res : Int32} (hd : 1 ≤ d) (hF : FK m) (hx : x_X1_sumOfDelays m = res) : Ev mtab mcode d 34 [.ref b] (n, c, s, fm b m M) (.inl (some (.int res))) (n, c, s, fm b m M) := by
  obtain ⟨d, rfl⟩ : ∃ e, d = e + 1 := ⟨d - 1, by omega⟩
  rw [x_X1_sumOfDelays_eq] at hx
  unfold y_X1_sumOfDelays at hx
  refine jv_mk (m := mX1_sumOfDelays) (cd := jcX1_sumOfDelays) rfl rfl (Nat.le_of_ble_eq_true rfl) trivial ?_
  refine JV.stk (len := 1) (sem := (s_push (.int 0))) (p2 := 1) rfl rfl rfl ?_
  refine JV.ist (p2 := 2) rfl rfl rfl ?_
  refine JV.stk (len := 1) (sem := (s_push (.int 0))) (p2 := 3) rfl rfl rfl ?_
  refine JV.ist (p2 := 4) rfl rfl rfl ?_
  refine lq_X1_sumOfDelays_4 (c1 := 0) (N := (ix (m 0 0 2))) (m := m) (by omega) hF.na.2 hF.na.1 ?_
  refine JV.ild (p2 := 35) rfl rfl rfl ?_
  subst hx
  exact JV.ret rfl (fun _ => rfl) rfl rfl
noncomputable def bd_X1_greatestDelay_4 (m : Mem) (j : Nat) (c1 : Int32) : Int32 := (if c1 < (m 3 j 7) then (m 3 j 7) else c1)
noncomputable def ly_X1_greatestDelay_4 (m : Mem) (N : Nat) (c1 : Int32) : Int32 := itr (fun jz s => bd_X1_greatestDelay_4 m jz s) N 0 c1
theorem le_X1_greatestDelay_4 : ∃ f, f = ly_X1_greatestDelay_4 := ⟨ly_X1_greatestDelay_4, rfl⟩
noncomputable def lf_X1_greatestDelay_4 := Classical.choose le_X1_greatestDelay_4
theorem lf_X1_greatestDelay_4_eq : lf_X1_greatestDelay_4 = ly_X1_greatestDelay_4 := Classical.choose_spec le_X1_greatestDelay_4
theorem lp_X1_greatestDelay_4 {d n c s b : Nat} {M : JM} {o : JO} {hf : JH} {m : Mem} {N : Nat} (hd : 0 ≤ d) (hNc : N ≤ 12) (hN : m 0 0 2 = nI N) : ∀ (k j : Nat) (c1 : Int32), j + k = N → JV (Ev mtab mcode d) jcX1_greatestDelay (32, [(0, .ref b), (1, .int (itr (fun jz s => bd_X1_greatestDelay_4 m jz s) k j c1))], []) (n, c, s, fm b m M) o hf → JV (Ev mtab mcode d) jcX1_greatestDelay (4, [(0, .ref b), (1, .int c1), (2, .int (nI j))], []) (n, c, s, fm b m M) o hf := by
  intro k
  induction k with
  | zero =>
    intro j c1 hj hc
    refine JV.ild (p2 := 5) rfl rfl rfl ?_
    refine JV.ald (p2 := 6) rfl rfl rfl ?_
    refine JV.getF2 (p2 := 9) rfl rfl ?_
    refine JV.brT rfl rfl (by rw [hN]; exact nI_le (a := N) (b := j) (by omega) (by omega)) ?_
    exact JV.keep [0, 1] rfl hc
  | succ k ih =>
    intro j c1 hj hc
    obtain ⟨s1, hx⟩ : ∃ s1, bd_X1_greatestDelay_4 m j c1 = s1 := ⟨_, rfl⟩
    have hc2 : JV (Ev mtab mcode d) jcX1_greatestDelay (32, [(0, .ref b), (1, .int (itr (fun jz s => bd_X1_greatestDelay_4 m jz s) k (j + 1) s1))], []) (n, c, s, fm b m M) o hf := by
      subst hx
      exact hc
    clear hc
    unfold bd_X1_greatestDelay_4 at hx
    refine JV.ild (p2 := 5) rfl rfl rfl ?_
    refine JV.ald (p2 := 6) rfl rfl rfl ?_
    refine JV.getF2 (p2 := 9) rfl rfl ?_
    refine JV.brF (p2 := 12) rfl rfl rfl (by rw [hN]; exact nI_ge (a := j) (b := N) (by omega) (by omega)) ?_
    refine JV.ild (p2 := 13) rfl rfl rfl ?_
    refine JV.ald (p2 := 14) rfl rfl rfl ?_
    refine JV.getFr2 (p2 := 17) rfl rfl ?_
    refine JV.ild (p2 := 18) rfl rfl rfl ?_
    refine JV.elA (p2 := 19) rfl rfl (by omega) rfl ?_
    refine JV.getA7 (p2 := 22) rfl (by omega) rfl ?_
    refine JV.mmax (p2 := 25) rfl (Nat.le_of_ble_eq_true rfl) rfl ?_
    refine JV.ist (p2 := 26) rfl rfl rfl ?_
    refine JV.iinc (p2 := 29) rfl rfl (nI_1 _) rfl rfl ?_
    refine JV.goto rfl ?_
    subst hx
    exact ih (j + 1) _ (by omega) hc2
theorem lq_X1_greatestDelay_4 {d n c s b : Nat} {M : JM} {o : JO} {hf : JH} {m : Mem} {N : Nat} {c1 : Int32} (hd : 0 ≤ d) (hNc : N ≤ 12) (hN : m 0 0 2 = nI N)  (hc : JV (Ev mtab mcode d) jcX1_greatestDelay (32, [(0, .ref b), (1, .int (lf_X1_greatestDelay_4 m N c1))], []) (n, c, s, fm b m M) o hf) : JV (Ev mtab mcode d) jcX1_greatestDelay (4, [(0, .ref b), (1, .int c1), (2, .int 0)], []) (n, c, s, fm b m M) o hf := by
  rw [lf_X1_greatestDelay_4_eq] at hc
  unfold ly_X1_greatestDelay_4 at hc
  exact lp_X1_greatestDelay_4 hd hNc hN N 0 c1 (by omega) hc
noncomputable def y_X1_greatestDelay (m : Mem) : Int32 := (lf_X1_greatestDelay_4 m (ix (m 0 0 2)) 0)
theorem xe_X1_greatestDelay : ∃ f, f = y_X1_greatestDelay := ⟨y_X1_greatestDelay, rfl⟩
noncomputable def x_X1_greatestDelay := Classical.choose xe_X1_greatestDelay
theorem x_X1_greatestDelay_eq : x_X1_greatestDelay = y_X1_greatestDelay := Classical.choose_spec xe_X1_greatestDelay
theorem ev_X1_greatestDelay {d n c s b : Nat} {m : Mem} {M : JM}  {res : Int32} (hd : 1 ≤ d) (hF : FK m) (hx : x_X1_greatestDelay m = res) : Ev mtab mcode d 35 [.ref b] (n, c, s, fm b m M) (.inl (some (.int res))) (n, c, s, fm b m M) := by
  obtain ⟨d, rfl⟩ : ∃ e, d = e + 1 := ⟨d - 1, by omega⟩
  rw [x_X1_greatestDelay_eq] at hx
  unfold y_X1_greatestDelay at hx
  refine jv_mk (m := mX1_greatestDelay) (cd := jcX1_greatestDelay) rfl rfl (Nat.le_of_ble_eq_true rfl) trivial ?_
  refine JV.stk (len := 1) (sem := (s_push (.int 0))) (p2 := 1) rfl rfl rfl ?_
  refine JV.ist (p2 := 2) rfl rfl rfl ?_
  refine JV.stk (len := 1) (sem := (s_push (.int 0))) (p2 := 3) rfl rfl rfl ?_
  refine JV.ist (p2 := 4) rfl rfl rfl ?_
  refine lq_X1_greatestDelay_4 (c1 := 0) (N := (ix (m 0 0 2))) (m := m) (by omega) hF.na.2 hF.na.1 ?_
  refine JV.ild (p2 := 33) rfl rfl rfl ?_
  subst hx
  exact JV.ret rfl (fun _ => rfl) rfl rfl
noncomputable def bd_X1_sumOfBuses_4 (m : Mem) (j : Nat) (c1 : Int32) : Int32 := (c1 + (m 3 j 9))
noncomputable def ly_X1_sumOfBuses_4 (m : Mem) (N : Nat) (c1 : Int32) : Int32 := itr (fun jz s => bd_X1_sumOfBuses_4 m jz s) N 0 c1
theorem le_X1_sumOfBuses_4 : ∃ f, f = ly_X1_sumOfBuses_4 := ⟨ly_X1_sumOfBuses_4, rfl⟩
noncomputable def lf_X1_sumOfBuses_4 := Classical.choose le_X1_sumOfBuses_4
theorem lf_X1_sumOfBuses_4_eq : lf_X1_sumOfBuses_4 = ly_X1_sumOfBuses_4 := Classical.choose_spec le_X1_sumOfBuses_4
theorem lp_X1_sumOfBuses_4 {d n c s b : Nat} {M : JM} {o : JO} {hf : JH} {m : Mem} {N : Nat} (hd : 0 ≤ d) (hNc : N ≤ 12) (hN : m 0 0 2 = nI N) : ∀ (k j : Nat) (c1 : Int32), j + k = N → JV (Ev mtab mcode d) jcX1_sumOfBuses (30, [(0, .ref b), (1, .int (itr (fun jz s => bd_X1_sumOfBuses_4 m jz s) k j c1))], []) (n, c, s, fm b m M) o hf → JV (Ev mtab mcode d) jcX1_sumOfBuses (4, [(0, .ref b), (1, .int c1), (2, .int (nI j))], []) (n, c, s, fm b m M) o hf := by
  intro k
  induction k with
  | zero =>
    intro j c1 hj hc
    refine JV.ild (p2 := 5) rfl rfl rfl ?_
    refine JV.ald (p2 := 6) rfl rfl rfl ?_
    refine JV.getF2 (p2 := 9) rfl rfl ?_
    refine JV.brT rfl rfl (by rw [hN]; exact nI_le (a := N) (b := j) (by omega) (by omega)) ?_
    exact JV.keep [0, 1] rfl hc
  | succ k ih =>
    intro j c1 hj hc
    obtain ⟨s1, hx⟩ : ∃ s1, bd_X1_sumOfBuses_4 m j c1 = s1 := ⟨_, rfl⟩
    have hc2 : JV (Ev mtab mcode d) jcX1_sumOfBuses (30, [(0, .ref b), (1, .int (itr (fun jz s => bd_X1_sumOfBuses_4 m jz s) k (j + 1) s1))], []) (n, c, s, fm b m M) o hf := by
      subst hx
      exact hc
    clear hc
    unfold bd_X1_sumOfBuses_4 at hx
    refine JV.ild (p2 := 5) rfl rfl rfl ?_
    refine JV.ald (p2 := 6) rfl rfl rfl ?_
    refine JV.getF2 (p2 := 9) rfl rfl ?_
    refine JV.brF (p2 := 12) rfl rfl rfl (by rw [hN]; exact nI_ge (a := j) (b := N) (by omega) (by omega)) ?_
    refine JV.ild (p2 := 13) rfl rfl rfl ?_
    refine JV.ald (p2 := 14) rfl rfl rfl ?_
    refine JV.getFr2 (p2 := 17) rfl rfl ?_
    refine JV.ild (p2 := 18) rfl rfl rfl ?_
    refine JV.elA (p2 := 19) rfl rfl (by omega) rfl ?_
    refine JV.getA9 (p2 := 22) rfl (by omega) rfl ?_
    refine JV.stk (len := 1) (sem := s_iadd) (p2 := 23) rfl rfl rfl ?_
    refine JV.ist (p2 := 24) rfl rfl rfl ?_
    refine JV.iinc (p2 := 27) rfl rfl (nI_1 _) rfl rfl ?_
    refine JV.goto rfl ?_
    subst hx
    exact ih (j + 1) _ (by omega) hc2
theorem lq_X1_sumOfBuses_4 {d n c s b : Nat} {M : JM} {o : JO} {hf : JH} {m : Mem} {N : Nat} {c1 : Int32} (hd : 0 ≤ d) (hNc : N ≤ 12) (hN : m 0 0 2 = nI N)  (hc : JV (Ev mtab mcode d) jcX1_sumOfBuses (30, [(0, .ref b), (1, .int (lf_X1_sumOfBuses_4 m N c1))], []) (n, c, s, fm b m M) o hf) : JV (Ev mtab mcode d) jcX1_sumOfBuses (4, [(0, .ref b), (1, .int c1), (2, .int 0)], []) (n, c, s, fm b m M) o hf := by
  rw [lf_X1_sumOfBuses_4_eq] at hc
  unfold ly_X1_sumOfBuses_4 at hc
  exact lp_X1_sumOfBuses_4 hd hNc hN N 0 c1 (by omega) hc
noncomputable def y_X1_sumOfBuses (m : Mem) : Int32 := (lf_X1_sumOfBuses_4 m (ix (m 0 0 2)) 0)
theorem xe_X1_sumOfBuses : ∃ f, f = y_X1_sumOfBuses := ⟨y_X1_sumOfBuses, rfl⟩
noncomputable def x_X1_sumOfBuses := Classical.choose xe_X1_sumOfBuses
theorem x_X1_sumOfBuses_eq : x_X1_sumOfBuses = y_X1_sumOfBuses := Classical.choose_spec xe_X1_sumOfBuses
theorem ev_X1_sumOfBuses {d n c s b : Nat} {m : Mem} {M : JM}  {res : Int32} (hd : 1 ≤ d) (hF : FK m) (hx : x_X1_sumOfBuses m = res) : Ev mtab mcode d 36 [.ref b] (n, c, s, fm b m M) (.inl (some (.int res))) (n, c, s, fm b m M) := by
  obtain ⟨d, rfl⟩ : ∃ e, d = e + 1 := ⟨d - 1, by omega⟩
  rw [x_X1_sumOfBuses_eq] at hx
  unfold y_X1_sumOfBuses at hx
  refine jv_mk (m := mX1_sumOfBuses) (cd := jcX1_sumOfBuses) rfl rfl (Nat.le_of_ble_eq_true rfl) trivial ?_
  refine JV.stk (len := 1) (sem := (s_push (.int 0))) (p2 := 1) rfl rfl rfl ?_
  refine JV.ist (p2 := 2) rfl rfl rfl ?_
  refine JV.stk (len := 1) (sem := (s_push (.int 0))) (p2 := 3) rfl rfl rfl ?_
  refine JV.ist (p2 := 4) rfl rfl rfl ?_
  refine lq_X1_sumOfBuses_4 (c1 := 0) (N := (ix (m 0 0 2))) (m := m) (by omega) hF.na.2 hF.na.1 ?_
  refine JV.ild (p2 := 31) rfl rfl rfl ?_
  subst hx
  exact JV.ret rfl (fun _ => rfl) rfl rfl
noncomputable def y_X1_areAllGone (m : Mem) : Bool := (if (x_X1_countAt m 5) = (m 0 0 2) then true else false)
theorem xe_X1_areAllGone : ∃ f, f = y_X1_areAllGone := ⟨y_X1_areAllGone, rfl⟩
noncomputable def x_X1_areAllGone := Classical.choose xe_X1_areAllGone
theorem x_X1_areAllGone_eq : x_X1_areAllGone = y_X1_areAllGone := Classical.choose_spec xe_X1_areAllGone
theorem ev_X1_areAllGone {d n c s b : Nat} {m : Mem} {M : JM}  {res : Bool} (hd : 2 ≤ d) (hF : FK m) (hx : x_X1_areAllGone m = res) : Ev mtab mcode d 32 [.ref b] (n, c, s, fm b m M) (.inl (some (.int (bI res)))) (n, c, s, fm b m M) := by
  obtain ⟨d, rfl⟩ : ∃ e, d = e + 1 := ⟨d - 1, by omega⟩
  rw [x_X1_areAllGone_eq] at hx
  unfold y_X1_areAllGone at hx
  refine jv_mk (m := mX1_areAllGone) (cd := jcX1_areAllGone) rfl rfl (Nat.le_of_ble_eq_true rfl) (bI_or _) ?_
  refine JV.ald (p2 := 1) rfl rfl rfl ?_
  refine JV.stk (len := 1) (sem := (s_push (.int 5))) (p2 := 2) rfl rfl rfl ?_
  refine JV.invI (p2 := 5) rfl rfl rfl fm_F (Nat.le_of_ble_eq_true rfl) rfl (ev_X1_countAt (by omega) hF rfl) ?_
  refine JV.ald (p2 := 6) rfl rfl rfl ?_
  refine JV.getF2 (p2 := 9) rfl rfl ?_
  by_cases h9 : (x_X1_countAt m 5) = (m 0 0 2)
  · rw [if_pos h9] at hx
    refine JV.brF (p2 := 12) rfl rfl rfl (fun e => e h9) ?_
    refine JV.stk (len := 1) (sem := (s_push (.int 1))) (p2 := 13) rfl rfl rfl ?_
    refine JV.goto rfl ?_
    subst hx
    exact JV.ret rfl (fun _ => rfl) rfl rfl
  · rw [if_neg h9] at hx
    refine JV.brT rfl rfl h9 ?_
    refine JV.stk (len := 1) (sem := (s_push (.int 0))) (p2 := 17) rfl rfl rfl ?_
    subst hx
    exact JV.ret rfl (fun _ => rfl) rfl rfl
