/-! a field that a method makes of another: indexes stay in their rows, counts stay -/
def okf (f k : Nat) : Bool := !((f == 0 && decide (k < 3)) || (f == 1 && k == 1) || (f == 2 && k == 1) || (f == 3 && k == 6) || (f == 4 && k == 0))
theorem okf_ne {f k f' k' : Nat} (h : okf f k = true) (g : okf f' k' = false) : ¬ (f' = f ∧ k' = k) := by
  rintro ⟨rfl, rfl⟩
  rw [h] at g
  cases g
theorem up3_ok {m : Mem} {f i k f' i' k' : Nat} {v : Int32} (h : okf f k = true) (g : okf f' k' = false) : up3 m f i k v f' i' k' = m f' i' k' := up3_ne (fun q => okf_ne h g ⟨q.1, q.2.2⟩)
def FW (B : Nat) (m0 m : Mem) : Prop := FK m ∧ VN B (m 4 0 0) ∧ ∀ k, k < 3 → m 0 0 k = m0 0 0 k
theorem FK.up {m : Mem} {f i k : Nat} {v : Int32} (h : FK m) (hk : okf f k = true) : FK (up3 m f i k v) := by
  refine ⟨?_, ?_, ?_, fun j hj => ?_, fun j hj => ?_, fun j hj => ?_⟩
  · rw [up3_ok hk rfl]; exact h.ns
  · rw [up3_ok hk rfl]; exact h.nt
  · rw [up3_ok hk rfl]; exact h.na
  · rw [up3_ok hk rfl]; exact h.st hj
  · rw [up3_ok hk rfl]; exact h.tu hj
  · rw [up3_ok hk rfl]; exact h.ac hj
theorem FK.upS {m : Mem} {i : Nat} {v : Int32} (h : FK m) (hv : VX 12 v) : FK (up3 m 1 i 1 v) := by
  refine ⟨?_, ?_, ?_, fun j hj => ?_, fun j hj => ?_, fun j hj => ?_⟩
  · rw [up3_ne (by simp)]; exact h.ns
  · rw [up3_ne (by simp)]; exact h.nt
  · rw [up3_ne (by simp)]; exact h.na
  · by_cases e : j = i
    · subst e
      rw [up3_self]
      exact hv
    · rw [up3_ne (fun q => e q.2.1)]; exact h.st hj
  · rw [up3_ne (by simp)]; exact h.tu hj
  · rw [up3_ne (by simp)]; exact h.ac hj
theorem FK.upT {m : Mem} {i : Nat} {v : Int32} (h : FK m) (hv : VX 12 v) : FK (up3 m 2 i 1 v) := by
  refine ⟨?_, ?_, ?_, fun j hj => ?_, fun j hj => ?_, fun j hj => ?_⟩
  · rw [up3_ne (by simp)]; exact h.ns
  · rw [up3_ne (by simp)]; exact h.nt
  · rw [up3_ne (by simp)]; exact h.na
  · rw [up3_ne (by simp)]; exact h.st hj
  · by_cases e : j = i
    · subst e
      rw [up3_self]
      exact hv
    · rw [up3_ne (fun q => e q.2.1)]; exact h.tu hj
  · rw [up3_ne (by simp)]; exact h.ac hj
theorem FK.upA {m : Mem} {i : Nat} {v : Int32} (h : FK m) (hv : VX 6 v) : FK (up3 m 3 i 6 v) := by
  refine ⟨?_, ?_, ?_, fun j hj => ?_, fun j hj => ?_, fun j hj => ?_⟩
  · rw [up3_ne (by simp)]; exact h.ns
  · rw [up3_ne (by simp)]; exact h.nt
  · rw [up3_ne (by simp)]; exact h.na
  · rw [up3_ne (by simp)]; exact h.st hj
  · rw [up3_ne (by simp)]; exact h.tu hj
  · by_cases e : j = i
    · subst e
      rw [up3_self]
      exact hv
    · rw [up3_ne (fun q => e q.2.1)]; exact h.ac hj
theorem FW.up {B : Nat} {m0 m : Mem} {f i k : Nat} {v : Int32} (h : FW B m0 m) (hk : okf f k = true) : FW B m0 (up3 m f i k v) := ⟨h.1.up hk, by rw [up3_ok hk rfl]; exact h.2.1, fun q hq => by rw [up3_ok hk (by unfold okf; rw [decide_eq_true hq]; rfl)]; exact h.2.2 q hq⟩
theorem FW.upS {B : Nat} {m0 m : Mem} {i : Nat} {v : Int32} (h : FW B m0 m) (hv : VX 12 v) : FW B m0 (up3 m 1 i 1 v) := ⟨h.1.upS hv, by rw [up3_ne (by simp)]; exact h.2.1, fun q hq => by rw [up3_ne (by simp)]; exact h.2.2 q hq⟩
theorem FW.upT {B : Nat} {m0 m : Mem} {i : Nat} {v : Int32} (h : FW B m0 m) (hv : VX 12 v) : FW B m0 (up3 m 2 i 1 v) := ⟨h.1.upT hv, by rw [up3_ne (by simp)]; exact h.2.1, fun q hq => by rw [up3_ne (by simp)]; exact h.2.2 q hq⟩
theorem FW.upA {B : Nat} {m0 m : Mem} {i : Nat} {v : Int32} (h : FW B m0 m) (hv : VX 6 v) : FW B m0 (up3 m 3 i 6 v) := ⟨h.1.upA hv, by rw [up3_ne (by simp)]; exact h.2.1, fun q hq => by rw [up3_ne (by simp)]; exact h.2.2 q hq⟩
theorem FW.mono {B B' : Nat} {m0 m : Mem} (h : FW B m0 m) (hb : B ≤ B') : FW B' m0 m := ⟨h.1, ⟨h.2.1.1, Nat.le_trans h.2.1.2 hb⟩, h.2.2⟩
theorem FW.tot {B : Nat} {m0 m : Mem} (h : FW B m0 m) (hB : B + 1 < 2 ^ 31) : FW (B + 1) m0 (up3 m 4 0 0 (m 4 0 0 + 1)) := by
  have hv : VN (B + 1) (m 4 0 0 + 1) := by
    have e := h.2.1.1
    have l := h.2.1.2
    have e2 : m 4 0 0 + 1 = nI (ix (m 4 0 0) + 1) := by rw [← nI_1, ← e]
    unfold VN
    rw [e2, ix_nI (by omega)]
    exact ⟨rfl, by omega⟩
  refine ⟨⟨?_, ?_, ?_, fun j hj => ?_, fun j hj => ?_, fun j hj => ?_⟩, ?_, fun q hq => ?_⟩
  · rw [up3_ne (by simp)]; exact h.1.ns
  · rw [up3_ne (by simp)]; exact h.1.nt
  · rw [up3_ne (by simp)]; exact h.1.na
  · rw [up3_ne (by simp)]; exact h.1.st hj
  · rw [up3_ne (by simp)]; exact h.1.tu hj
  · rw [up3_ne (by simp)]; exact h.1.ac hj
  · rw [up3_self]; exact hv
  · rw [up3_ne (by simp)]; exact h.2.2 q hq
theorem FW.cN {B B' : Nat} {m0 m m' : Mem} (h' : FW B' m0 m') (h : FW B m0 m) {k : Nat} (hk : k < 3) : m' 0 0 k = nI (ix (m 0 0 k)) := by
  rw [h'.2.2 k hk, ← h.2.2 k hk]
  match k, hk with
  | 0, _ => exact h.1.ns.1
  | 1, _ => exact h.1.nt.1
  | 2, _ => exact h.1.na.1
theorem FW.same {B B' : Nat} {m0 m m' : Mem} (h' : FW B' m0 m') (h : FW B m0 m) {k : Nat} (hk : k < 3) : m' 0 0 k = m 0 0 k := by rw [h'.2.2 k hk, h.2.2 k hk]
theorem vn_rem {B : Nat} {x : Int32} (h : VN B x) (hB : B < 2 ^ 31) : x - x / 30 * 30 = nI (ix x % 30) := by
  have q := pk_rem (a := ix x) (d := 30) (by have := h.2; omega) (by decide) (by decide)
  rw [← h.1] at q
  exact q
theorem ix_rem {x : Int32} (h : ¬ x < 0) : x - x / 30 * 30 = nI (ix x % 30) := by
  obtain ⟨j, hj, e⟩ := nI_of h
  subst e
  rw [ix_nI hj]
  exact pk_rem (a := j) (d := 30) hj (by decide) (by decide)
theorem itr_fix {S : Type} {f : Nat → S → S} {s : S} (h : ∀ j, f j s = s) : ∀ k j, itr f k j s = s
  | 0, _ => rfl
  | k + 1, j => by
    show itr f k (j + 1) (f j s) = s
    rw [h j]
    exact itr_fix h k (j + 1)
theorem fw_X0_takeBuses {B : Nat} {m0 m : Mem} {i : Nat} (h : FW B m0 m) : FW B m0 (x_X0_takeBuses m i) := by
  rw [x_X0_takeBuses_eq]
  unfold y_X0_takeBuses
  exact FW.up h rfl
theorem fw_X3_restart {B : Nat} {m0 m : Mem} {i : Nat} (h : FW B m0 m) : FW B m0 (x_X3_restart m i) := by
  rw [x_X3_restart_eq]
  unfold y_X3_restart
  exact FW.up (FW.upS h (Or.inl rfl)) rfl
theorem fw_X5_restart {B : Nat} {m0 m : Mem} {i : Nat} (h : FW B m0 m) : FW B m0 (x_X5_restart m i) := by
  rw [x_X5_restart_eq]
  unfold y_X5_restart
  exact FW.up (FW.up (FW.up (FW.upT h (Or.inl rfl)) rfl) rfl) rfl
theorem fw_X5_take {B : Nat} {m0 m : Mem} {i : Nat} {p1 p2 : Int32} (h : FW B m0 m) (v : VX 12 p1) : FW B m0 (x_X5_take m i p1 p2) := by
  rw [x_X5_take_eq]
  unfold y_X5_take
  exact FW.up (FW.upT h v) rfl
noncomputable def y_X2_put (m : Mem) (p1 : Int32) (p2 : Int32) (p3 : Int32) : Mem := (up3 (up3 (up3 (up3 m 5 0 (ix (m 4 0 0) % 30) p1) 6 0 (ix (m 4 0 0) % 30) p2) 7 0 (ix (m 4 0 0) % 30) p3) 4 0 0 (((up3 (up3 (up3 m 5 0 (ix (m 4 0 0) % 30) p1) 6 0 (ix (m 4 0 0) % 30) p2) 7 0 (ix (m 4 0 0) % 30) p3) 4 0 0) + 1))
theorem xe_X2_put : ∃ f, f = y_X2_put := ⟨y_X2_put, rfl⟩
noncomputable def x_X2_put := Classical.choose xe_X2_put
theorem x_X2_put_eq : x_X2_put = y_X2_put := Classical.choose_spec xe_X2_put
theorem ev_X2_put {d n c s b : Nat} {m : Mem} {M : JM} {p1 : Int32} {p2 : Int32} {p3 : Int32} {B : Nat} {m0 : Mem} {res : Mem} (hd : 1 ≤ d) (hW : FW B m0 m) (hB : B + 1 < 2147483648) (hx : x_X2_put m p1 p2 p3 = res) : Ev mtab mcode d 40 [.ref (b + 4), .int p1, .int p2, .int p3] (n, c, s, fm b m M) (.inl none) (n, c, s, fm b res M) := by
  obtain ⟨d, rfl⟩ : ∃ e, d = e + 1 := ⟨d - 1, by omega⟩
  rw [x_X2_put_eq] at hx
  unfold y_X2_put at hx
  refine jv_mk (m := mX2_put) (cd := jcX2_put) rfl rfl (Nat.le_of_ble_eq_true rfl) trivial ?_
  refine JV.ald (p2 := 1) rfl rfl rfl ?_
  refine JV.getL0 (p2 := 4) rfl rfl ?_
  refine JV.stk (len := 2) (sem := (s_push (.int 30))) (p2 := 6) rfl rfl rfl ?_
  refine JV.stk (len := 1) (sem := s_irem) (p2 := 7) rfl rfl rfl ?_
  refine JV.ist (p2 := 9) rfl rfl rfl ?_
  refine JV.ald (p2 := 10) rfl rfl rfl ?_
  refine JV.getLr0 (p2 := 13) rfl rfl ?_
  refine JV.ild (p2 := 15) rfl rfl rfl ?_
  refine JV.ild (p2 := 16) rfl rfl rfl ?_
  refine JV.iast (p2 := 17) (j := (ix (m 4 0 0) % 30)) rfl fm_L5 (vn_rem hW.2.1 (by omega)) (Nat.mod_lt _ (by decide)) (by decide) (fm_w5 (k := (ix (m 4 0 0) % 30)) rfl) rfl ?_
  refine JV.ald (p2 := 18) rfl rfl rfl ?_
  refine JV.getLr1 (p2 := 21) rfl rfl ?_
  refine JV.ild (p2 := 23) rfl rfl rfl ?_
  refine JV.ild (p2 := 24) rfl rfl rfl ?_
  refine JV.iast (p2 := 25) (j := (ix (m 4 0 0) % 30)) rfl fm_L6 (vn_rem hW.2.1 (by omega)) (Nat.mod_lt _ (by decide)) (by decide) (fm_w6 (k := (ix (m 4 0 0) % 30)) rfl) rfl ?_
  refine JV.ald (p2 := 26) rfl rfl rfl ?_
  refine JV.getLr2 (p2 := 29) rfl rfl ?_
  refine JV.ild (p2 := 31) rfl rfl rfl ?_
  refine JV.ild (p2 := 32) rfl rfl rfl ?_
  refine JV.iast (p2 := 33) (j := (ix (m 4 0 0) % 30)) rfl fm_L7 (vn_rem hW.2.1 (by omega)) (Nat.mod_lt _ (by decide)) (by decide) (fm_w7 (k := (ix (m 4 0 0) % 30)) rfl) rfl ?_
  refine JV.ald (p2 := 34) rfl rfl rfl ?_
  refine JV.stk (len := 1) (sem := s_dup) (p2 := 35) rfl rfl rfl ?_
  refine JV.getL0 (p2 := 38) rfl rfl ?_
  refine JV.stk (len := 1) (sem := (s_push (.int 1))) (p2 := 39) rfl rfl rfl ?_
  refine JV.stk (len := 1) (sem := s_iadd) (p2 := 40) rfl rfl rfl ?_
  refine JV.putL0 (p2 := 43) rfl rfl ?_
  subst hx
  exact JV.ret rfl (fun _ => rfl) rfl rfl
theorem fw_X2_put {m : Mem} {p1 : Int32} {p2 : Int32} {p3 : Int32} {B : Nat} {m0 : Mem} (hW : FW B m0 m) (hB : B + 1 < 2147483648) : FW (B + 1) m0 (x_X2_put m p1 p2 p3) := by
  rw [x_X2_put_eq]
  unfold y_X2_put
  exact FW.mono (FW.tot (FW.up (FW.up (FW.up hW rfl) rfl) rfl) (by omega)) (by omega)
noncomputable def y_X2_answer (m : Mem) (p1 : Int32) (p2 : Int32) : Int32 := (if p2 = 0 then (m 5 0 (ix (m 4 0 0 - 1 - p1) % 30)) else (if p2 = 1 then (m 6 0 (ix (m 4 0 0 - 1 - p1) % 30)) else (m 7 0 (ix (m 4 0 0 - 1 - p1) % 30))))
theorem xe_X2_answer : ∃ f, f = y_X2_answer := ⟨y_X2_answer, rfl⟩
noncomputable def x_X2_answer := Classical.choose xe_X2_answer
theorem x_X2_answer_eq : x_X2_answer = y_X2_answer := Classical.choose_spec xe_X2_answer
noncomputable def y_X1_finish (m : Mem) (q : Nat) : Mem := (if (m 3 q 5) = 3 then (x_X2_put (up3 m 3 q 5 1) 6 ((up3 m 3 q 5 1) 0 0 3) (nI q)) else (if ((up3 m 3 q 5 5) 3 q 6) = (-1) then (x_X2_put (up3 m 3 q 5 5) 4 ((up3 m 3 q 5 5) 0 0 3) (nI q)) else (x_X2_put (up3 (up3 (up3 m 3 q 5 5) 1 (ix ((up3 m 3 q 5 5) 3 q 6)) 1 (-1)) 3 q 6 (-1)) 4 ((up3 (up3 (up3 m 3 q 5 5) 1 (ix ((up3 m 3 q 5 5) 3 q 6)) 1 (-1)) 3 q 6 (-1)) 0 0 3) (nI q))))
theorem xe_X1_finish : ∃ f, f = y_X1_finish := ⟨y_X1_finish, rfl⟩
noncomputable def x_X1_finish := Classical.choose xe_X1_finish
theorem x_X1_finish_eq : x_X1_finish = y_X1_finish := Classical.choose_spec xe_X1_finish
theorem ev_X1_finish {d n c s b : Nat} {m : Mem} {M : JM} {q : Nat} {v_q : Int32} {B : Nat} {m0 : Mem} {res : Mem} (hd : 2 ≤ d) (e_q : v_q = nI q) (hW : FW B m0 m) (hB : B + 1 < 2147483648) (hq : q < 12) (hx : x_X1_finish m q = res) : Ev mtab mcode d 18 [.ref b, .int v_q] (n, c, s, fm b m M) (.inl none) (n, c, s, fm b res M) := by
  obtain ⟨d, rfl⟩ : ∃ e, d = e + 1 := ⟨d - 1, by omega⟩
  subst e_q
  rw [x_X1_finish_eq] at hx
  unfold y_X1_finish at hx
  refine jv_mk (m := mX1_finish) (cd := jcX1_finish) rfl rfl (Nat.le_of_ble_eq_true rfl) trivial ?_
  refine JV.ald (p2 := 1) rfl rfl rfl ?_
  refine JV.getFr2 (p2 := 4) rfl rfl ?_
  refine JV.ild (p2 := 5) rfl rfl rfl ?_
  refine JV.elA (p2 := 6) rfl rfl (by omega) rfl ?_
  refine JV.ast (p2 := 7) rfl rfl rfl ?_
  refine JV.ald (p2 := 8) rfl rfl rfl ?_
  refine JV.getA5 (p2 := 11) rfl (by omega) rfl ?_
  refine JV.stk (len := 1) (sem := (s_push (.int 3))) (p2 := 12) rfl rfl rfl ?_
  by_cases h12 : (m 3 q 5) = 3
  · rw [if_pos h12] at hx
    refine JV.brF (p2 := 15) rfl rfl rfl (fun e => e h12) ?_
    refine JV.ald (p2 := 16) rfl rfl rfl ?_
    refine JV.stk (len := 1) (sem := (s_push (.int 1))) (p2 := 17) rfl rfl rfl ?_
    refine JV.putA5 (p2 := 20) rfl (by omega) rfl ?_
    refine JV.ald (p2 := 21) rfl rfl rfl ?_
    refine JV.getFr3 (p2 := 24) rfl rfl ?_
    refine JV.stk (len := 2) (sem := (s_push (.int 6))) (p2 := 26) rfl rfl rfl ?_
    refine JV.ald (p2 := 27) rfl rfl rfl ?_
    refine JV.getF3 (p2 := 30) rfl rfl ?_
    refine JV.ild (p2 := 31) rfl rfl rfl ?_
    refine JV.inv0 (p2 := 34) rfl rfl rfl fm_L (Nat.le_of_ble_eq_true rfl) rfl (ev_X2_put (by omega) (FW.up hW rfl) (by omega) rfl) ?_
    subst hx
    exact JV.ret rfl (fun _ => rfl) rfl rfl
  · rw [if_neg h12] at hx
    refine JV.brT rfl rfl h12 ?_
    refine JV.ald (p2 := 36) rfl rfl rfl ?_
    refine JV.stk (len := 1) (sem := (s_push (.int 5))) (p2 := 37) rfl rfl rfl ?_
    refine JV.putA5 (p2 := 40) rfl (by omega) rfl ?_
    refine JV.ald (p2 := 41) rfl rfl rfl ?_
    refine JV.getA6 (p2 := 44) rfl (by omega) rfl ?_
    refine JV.stk (len := 1) (sem := (s_push (.int (-1)))) (p2 := 45) rfl rfl rfl ?_
    by_cases h45 : ((up3 m 3 q 5 5) 3 q 6) = (-1)
    · rw [if_pos h45] at hx
      refine JV.brT rfl rfl h45 ?_
      refine JV.ald (p2 := 67) rfl rfl rfl ?_
      refine JV.getFr3 (p2 := 70) rfl rfl ?_
      refine JV.stk (len := 1) (sem := (s_push (.int 4))) (p2 := 71) rfl rfl rfl ?_
      refine JV.ald (p2 := 72) rfl rfl rfl ?_
      refine JV.getF3 (p2 := 75) rfl rfl ?_
      refine JV.ild (p2 := 76) rfl rfl rfl ?_
      refine JV.inv0 (p2 := 79) rfl rfl rfl fm_L (Nat.le_of_ble_eq_true rfl) rfl (ev_X2_put (by omega) (FW.up hW rfl) (by omega) rfl) ?_
      subst hx
      exact JV.ret rfl (fun _ => rfl) rfl rfl
    · rw [if_neg h45] at hx
      refine JV.brF (p2 := 48) rfl rfl rfl h45 ?_
      refine JV.ald (p2 := 49) rfl rfl rfl ?_
      refine JV.getFr0 (p2 := 52) rfl rfl ?_
      refine JV.ald (p2 := 53) rfl rfl rfl ?_
      refine JV.getA6 (p2 := 56) rfl (by omega) rfl ?_
      have e56 : (up3 m 3 q 5 5) 3 q 6 = nI (ix ((up3 m 3 q 5 5) 3 q 6)) := VX.eq ((FW.up hW rfl).1.ac hq) h45
      have b56 : ix ((up3 m 3 q 5 5) 3 q 6) < 6 := VX.lt ((FW.up hW rfl).1.ac hq) h45
      refine JV.elS (p2 := 57) rfl e56 (by omega) rfl ?_
      refine JV.stk (len := 1) (sem := (s_push (.int (-1)))) (p2 := 58) rfl rfl rfl ?_
      refine JV.putS1 (p2 := 61) rfl (by omega) rfl ?_
      refine JV.ald (p2 := 62) rfl rfl rfl ?_
      refine JV.stk (len := 1) (sem := (s_push (.int (-1)))) (p2 := 63) rfl rfl rfl ?_
      refine JV.putA6 (p2 := 66) rfl (by omega) rfl ?_
      refine JV.ald (p2 := 67) rfl rfl rfl ?_
      refine JV.getFr3 (p2 := 70) rfl rfl ?_
      refine JV.stk (len := 1) (sem := (s_push (.int 4))) (p2 := 71) rfl rfl rfl ?_
      refine JV.ald (p2 := 72) rfl rfl rfl ?_
      refine JV.getF3 (p2 := 75) rfl rfl ?_
      refine JV.ild (p2 := 76) rfl rfl rfl ?_
      refine JV.inv0 (p2 := 79) rfl rfl rfl fm_L (Nat.le_of_ble_eq_true rfl) rfl (ev_X2_put (by omega) (FW.upA (FW.upS (FW.up hW rfl) (Or.inl rfl)) (Or.inl rfl)) (by omega) rfl) ?_
      subst hx
      exact JV.ret rfl (fun _ => rfl) rfl rfl
theorem fw_X1_finish {m : Mem} {q : Nat} {v_q : Int32} {B : Nat} {m0 : Mem} (e_q : v_q = nI q) (hW : FW B m0 m) (hB : B + 1 < 2147483648) (hq : q < 12) : FW (B + 1) m0 (x_X1_finish m q) := by
  subst e_q
  rw [x_X1_finish_eq]
  unfold y_X1_finish
  by_cases h12 : (m 3 q 5) = 3
  · rw [if_pos h12]
    exact FW.mono (fw_X2_put (FW.up hW rfl) (by omega)) (by omega)
  · rw [if_neg h12]
    by_cases h45 : ((up3 m 3 q 5 5) 3 q 6) = (-1)
    · rw [if_pos h45]
      exact FW.mono (fw_X2_put (FW.up hW rfl) (by omega)) (by omega)
    · rw [if_neg h45]
      have e56 : (up3 m 3 q 5 5) 3 q 6 = nI (ix ((up3 m 3 q 5 5) 3 q 6)) := VX.eq ((FW.up hW rfl).1.ac hq) h45
      have b56 : ix ((up3 m 3 q 5 5) 3 q 6) < 6 := VX.lt ((FW.up hW rfl).1.ac hq) h45
      exact FW.mono (fw_X2_put (FW.upA (FW.upS (FW.up hW rfl) (Or.inl rfl)) (Or.inl rfl)) (by omega)) (by omega)
noncomputable def bd_X1_workTugs_2 (j : Nat) (m : Mem) : Mem := (if (m 2 j 1) = (-1) then m else (if ((up3 m 2 j 2 ((m 2 j 2) - 1)) 2 j 2) = 0 then (up3 (x_X1_finish (up3 m 2 j 2 ((m 2 j 2) - 1)) (ix ((up3 m 2 j 2 ((m 2 j 2) - 1)) 2 j 1))) 2 j 1 (-1)) else (up3 m 2 j 2 ((m 2 j 2) - 1))))
noncomputable def ly_X1_workTugs_2 (N : Nat) (m : Mem) : Mem := itr (fun jz s => bd_X1_workTugs_2 jz s) N 0 m
theorem le_X1_workTugs_2 : ∃ f, f = ly_X1_workTugs_2 := ⟨ly_X1_workTugs_2, rfl⟩
noncomputable def lf_X1_workTugs_2 := Classical.choose le_X1_workTugs_2
theorem lf_X1_workTugs_2_eq : lf_X1_workTugs_2 = ly_X1_workTugs_2 := Classical.choose_spec le_X1_workTugs_2
theorem fb_X1_workTugs_2 {B : Nat} {m0 : Mem} (hB : B + 3 < 2147483648) {j : Nat} {m : Mem} (hjN : j < 3) (hW : FW (B + 1 * j) m0 m) : (FW (B + 1 * (j + 1)) m0 (bd_X1_workTugs_2 j m)) := by
  unfold bd_X1_workTugs_2
  by_cases h22 : (m 2 j 1) = (-1)
  · rw [if_pos h22]
    exact (FW.mono hW (by omega))
  · rw [if_neg h22]
    by_cases h39 : ((up3 m 2 j 2 ((m 2 j 2) - 1)) 2 j 2) = 0
    · rw [if_pos h39]
      have e47 : (up3 m 2 j 2 ((m 2 j 2) - 1)) 2 j 1 = nI (ix ((up3 m 2 j 2 ((m 2 j 2) - 1)) 2 j 1)) := VX.eq ((FW.up hW rfl).1.tu (by omega)) (by rw [up3_ne (by simp)]; exact h22)
      have b47 : ix ((up3 m 2 j 2 ((m 2 j 2) - 1)) 2 j 1) < 12 := VX.lt ((FW.up hW rfl).1.tu (by omega)) (by rw [up3_ne (by simp)]; exact h22)
      exact (FW.mono (FW.upT (fw_X1_finish (q := (ix ((up3 m 2 j 2 ((m 2 j 2) - 1)) 2 j 1))) e47 (FW.up hW rfl) (by omega) (by omega)) (Or.inl rfl)) (by omega))
    · rw [if_neg h39]
      exact (FW.mono (FW.up hW rfl) (by omega))
theorem fl_X1_workTugs_2 {B : Nat} {m0 : Mem} {N : Nat} (hB : B + 3 < 2147483648) {m : Mem} (hNc : N ≤ 3) (hW : FW (B + 1 * 0) m0 m) : (FW (B + 1 * N) m0 (lf_X1_workTugs_2 N m)) := by
  rw [lf_X1_workTugs_2_eq]
  unfold ly_X1_workTugs_2
  exact itr_inv (n := N) (s := m) (P := fun jz s => (FW (B + 1 * jz) m0 s)) (fun jz s => bd_X1_workTugs_2 jz s) (fun jz s hj hs => fb_X1_workTugs_2 (B := B) (m0 := m0) hB (j := jz) (m := s) (by omega) hs) hW
theorem lp_X1_workTugs_2 {d n c s b : Nat} {M : JM} {o : JO} {hf : JH} {B : Nat} {m0 : Mem} {N : Nat} (hd : 2 ≤ d) (hB : B + 3 < 2147483648) (hNc : N ≤ 3) : ∀ (k j : Nat) (m : Mem), j + k = N → m 0 0 1 = nI N → (FW (B + 1 * j) m0 m) → JV (Ev mtab mcode d) jcX1_workTugs (61, [(0, .ref b)], []) (n, c, s, fm b (itr (fun jz s => bd_X1_workTugs_2 jz s) k j m) M) o hf → JV (Ev mtab mcode d) jcX1_workTugs (2, [(0, .ref b), (1, .int (nI j))], []) (n, c, s, fm b m M) o hf := by
  intro k
  induction k with
  | zero =>
    intro j m hj hN hW hc
    refine JV.ild (p2 := 3) rfl rfl rfl ?_
    refine JV.ald (p2 := 4) rfl rfl rfl ?_
    refine JV.getF1 (p2 := 7) rfl rfl ?_
    refine JV.brT rfl rfl (by rw [hN]; exact nI_le (a := N) (b := j) (by omega) (by omega)) ?_
    exact JV.keep [0] rfl hc
  | succ k ih =>
    intro j m hj hN hW hc
    obtain ⟨s1, hx⟩ : ∃ s1, bd_X1_workTugs_2 j m = s1 := ⟨_, rfl⟩
    have hc2 : JV (Ev mtab mcode d) jcX1_workTugs (61, [(0, .ref b)], []) (n, c, s, fm b (itr (fun jz s => bd_X1_workTugs_2 jz s) k (j + 1) s1) M) o hf := by
      subst hx
      exact hc
    clear hc
    have iv := fb_X1_workTugs_2 (B := B) (m0 := m0) hB (j := j) (m := m) (by omega) hW
    rw [hx] at iv
    unfold bd_X1_workTugs_2 at hx
    refine JV.ild (p2 := 3) rfl rfl rfl ?_
    refine JV.ald (p2 := 4) rfl rfl rfl ?_
    refine JV.getF1 (p2 := 7) rfl rfl ?_
    refine JV.brF (p2 := 10) rfl rfl rfl (by rw [hN]; exact nI_ge (a := j) (b := N) (by omega) (by omega)) ?_
    refine JV.ald (p2 := 11) rfl rfl rfl ?_
    refine JV.getFr1 (p2 := 14) rfl rfl ?_
    refine JV.ild (p2 := 15) rfl rfl rfl ?_
    refine JV.elT (p2 := 16) rfl rfl (by omega) rfl ?_
    refine JV.ast (p2 := 17) rfl rfl rfl ?_
    refine JV.ald (p2 := 18) rfl rfl rfl ?_
    refine JV.getT1 (p2 := 21) rfl (by omega) rfl ?_
    refine JV.stk (len := 1) (sem := (s_push (.int (-1)))) (p2 := 22) rfl rfl rfl ?_
    by_cases h22 : (m 2 j 1) = (-1)
    · rw [if_pos h22] at hx
      refine JV.brT rfl rfl h22 ?_
      refine JV.iinc (p2 := 58) rfl rfl (nI_1 _) rfl rfl ?_
      refine JV.goto rfl ?_
      refine JV.keep [0, 1] rfl ?_
      subst hx
      exact ih (j + 1) _ (by omega) ((FW.same iv hW (by decide)).trans hN) iv hc2
    · rw [if_neg h22] at hx
      refine JV.brF (p2 := 25) rfl rfl rfl h22 ?_
      refine JV.ald (p2 := 26) rfl rfl rfl ?_
      refine JV.stk (len := 1) (sem := s_dup) (p2 := 27) rfl rfl rfl ?_
      refine JV.getT2 (p2 := 30) rfl (by omega) rfl ?_
      refine JV.stk (len := 1) (sem := (s_push (.int 1))) (p2 := 31) rfl rfl rfl ?_
      refine JV.stk (len := 1) (sem := s_isub) (p2 := 32) rfl rfl rfl ?_
      refine JV.putT2 (p2 := 35) rfl (by omega) rfl ?_
      refine JV.ald (p2 := 36) rfl rfl rfl ?_
      refine JV.getT2 (p2 := 39) rfl (by omega) rfl ?_
      by_cases h39 : ((up3 m 2 j 2 ((m 2 j 2) - 1)) 2 j 2) = 0
      · rw [if_pos h39] at hx
        refine JV.brF (p2 := 42) rfl rfl rfl (fun e => e h39) ?_
        refine JV.ald (p2 := 43) rfl rfl rfl ?_
        refine JV.ald (p2 := 44) rfl rfl rfl ?_
        refine JV.getT1 (p2 := 47) rfl (by omega) rfl ?_
        have e47 : (up3 m 2 j 2 ((m 2 j 2) - 1)) 2 j 1 = nI (ix ((up3 m 2 j 2 ((m 2 j 2) - 1)) 2 j 1)) := VX.eq ((FW.up hW rfl).1.tu (by omega)) (by rw [up3_ne (by simp)]; exact h22)
        have b47 : ix ((up3 m 2 j 2 ((m 2 j 2) - 1)) 2 j 1) < 12 := VX.lt ((FW.up hW rfl).1.tu (by omega)) (by rw [up3_ne (by simp)]; exact h22)
        refine JV.inv0 (p2 := 50) rfl rfl rfl fm_F (Nat.le_of_ble_eq_true rfl) rfl (ev_X1_finish (q := (ix ((up3 m 2 j 2 ((m 2 j 2) - 1)) 2 j 1))) (by omega) e47 (FW.up hW rfl) (by omega) (by omega) rfl) ?_
        refine JV.ald (p2 := 51) rfl rfl rfl ?_
        refine JV.stk (len := 1) (sem := (s_push (.int (-1)))) (p2 := 52) rfl rfl rfl ?_
        refine JV.putT1 (p2 := 55) rfl (by omega) rfl ?_
        refine JV.iinc (p2 := 58) rfl rfl (nI_1 _) rfl rfl ?_
        refine JV.goto rfl ?_
        refine JV.keep [0, 1] rfl ?_
        subst hx
        exact ih (j + 1) _ (by omega) ((FW.same iv hW (by decide)).trans hN) iv hc2
      · rw [if_neg h39] at hx
        refine JV.brT rfl rfl h39 ?_
        refine JV.iinc (p2 := 58) rfl rfl (nI_1 _) rfl rfl ?_
        refine JV.goto rfl ?_
        refine JV.keep [0, 1] rfl ?_
        subst hx
        exact ih (j + 1) _ (by omega) ((FW.same iv hW (by decide)).trans hN) iv hc2
theorem lq_X1_workTugs_2 {d n c s b : Nat} {M : JM} {o : JO} {hf : JH} {B : Nat} {m0 : Mem} {N : Nat} {m : Mem} (hd : 2 ≤ d) (hB : B + 3 < 2147483648) (hNc : N ≤ 3) (hN : m 0 0 1 = nI N) (hW : FW (B + 1 * 0) m0 m) (hc : JV (Ev mtab mcode d) jcX1_workTugs (61, [(0, .ref b)], []) (n, c, s, fm b (lf_X1_workTugs_2 N m) M) o hf) : JV (Ev mtab mcode d) jcX1_workTugs (2, [(0, .ref b), (1, .int 0)], []) (n, c, s, fm b m M) o hf := by
  rw [lf_X1_workTugs_2_eq] at hc
  unfold ly_X1_workTugs_2 at hc
  exact lp_X1_workTugs_2 (B := B) (m0 := m0) hd hB hNc N 0 m (by omega) hN hW hc
noncomputable def y_X1_workTugs (m : Mem) : Mem := (lf_X1_workTugs_2 (ix (m 0 0 1)) m)
theorem xe_X1_workTugs : ∃ f, f = y_X1_workTugs := ⟨y_X1_workTugs, rfl⟩
noncomputable def x_X1_workTugs := Classical.choose xe_X1_workTugs
theorem x_X1_workTugs_eq : x_X1_workTugs = y_X1_workTugs := Classical.choose_spec xe_X1_workTugs
theorem ev_X1_workTugs {d n c s b : Nat} {m : Mem} {M : JM} {B : Nat} {m0 : Mem} {res : Mem} (hd : 3 ≤ d) (hW : FW B m0 m) (hB : B + 3 < 2147483648) (hx : x_X1_workTugs m = res) : Ev mtab mcode d 17 [.ref b] (n, c, s, fm b m M) (.inl none) (n, c, s, fm b res M) := by
  obtain ⟨d, rfl⟩ : ∃ e, d = e + 1 := ⟨d - 1, by omega⟩
  rw [x_X1_workTugs_eq] at hx
  unfold y_X1_workTugs at hx
  refine jv_mk (m := mX1_workTugs) (cd := jcX1_workTugs) rfl rfl (Nat.le_of_ble_eq_true rfl) trivial ?_
  refine JV.stk (len := 1) (sem := (s_push (.int 0))) (p2 := 1) rfl rfl rfl ?_
  refine JV.ist (p2 := 2) rfl rfl rfl ?_
  refine lq_X1_workTugs_2 (m := m) (N := (ix (m 0 0 1))) (B := B) (m0 := m0) (by omega) (by omega) hW.1.nt.2 (FW.cN hW hW (by decide)) (FW.mono hW (by omega)) ?_
  subst hx
  exact JV.ret rfl (fun _ => rfl) rfl rfl
theorem fw_X1_workTugs {m : Mem} {B : Nat} {m0 : Mem} (hW : FW B m0 m) (hB : B + 3 < 2147483648) : FW (B + 3) m0 (x_X1_workTugs m) := by
  rw [x_X1_workTugs_eq]
  unfold y_X1_workTugs
  exact FW.mono (FW.mono (fl_X1_workTugs_2 (m := m) (N := (ix (m 0 0 1))) (B := B) (m0 := m0) (by omega) hW.1.nt.2 (FW.mono hW (by omega))) (B' := B + 3) (by have hc9 := hW.1.nt.2; omega)) (by omega)
noncomputable def bd_X1_receive_2 (j : Nat) (m : Mem) : Mem := (if (m 3 j 5) = 0 then (if (m 0 0 3) < (m 3 j 2) then m else (if (x_X1_freeStandFor m (m 3 j 0)) = (-1) then (x_X2_put (x_X0_takeBuses (up3 m 3 j 5 2) j) 2 ((x_X0_takeBuses (up3 m 3 j 5 2) j) 0 0 3) (nI j)) else (x_X2_put (up3 (up3 (up3 m 3 j 5 1) 3 j 6 (x_X1_freeStandFor m (m 3 j 0))) 1 (ix (x_X1_freeStandFor m (m 3 j 0))) 1 (nI j)) 1 ((up3 (up3 (up3 m 3 j 5 1) 3 j 6 (x_X1_freeStandFor m (m 3 j 0))) 1 (ix (x_X1_freeStandFor m (m 3 j 0))) 1 (nI j)) 0 0 3) (nI j)))) else m)
noncomputable def ly_X1_receive_2 (N : Nat) (m : Mem) : Mem := itr (fun jz s => bd_X1_receive_2 jz s) N 0 m
theorem le_X1_receive_2 : ∃ f, f = ly_X1_receive_2 := ⟨ly_X1_receive_2, rfl⟩
noncomputable def lf_X1_receive_2 := Classical.choose le_X1_receive_2
theorem lf_X1_receive_2_eq : lf_X1_receive_2 = ly_X1_receive_2 := Classical.choose_spec le_X1_receive_2
theorem fb_X1_receive_2 {B : Nat} {m0 : Mem} (hB : B + 12 < 2147483648) {j : Nat} {m : Mem} (hjN : j < 12) (hW : FW (B + 1 * j) m0 m) : (FW (B + 1 * (j + 1)) m0 (bd_X1_receive_2 j m)) := by
  unfold bd_X1_receive_2
  by_cases h21 : (m 3 j 5) = 0
  · rw [if_pos h21]
    by_cases h32 : (m 0 0 3) < (m 3 j 2)
    · rw [if_pos h32]
      exact (FW.mono hW (by omega))
    · rw [if_neg h32]
      by_cases h46 : (x_X1_freeStandFor m (m 3 j 0)) = (-1)
      · rw [if_pos h46]
        exact (FW.mono (fw_X2_put (fw_X0_takeBuses (FW.up hW rfl)) (by omega)) (by omega))
      · rw [if_neg h46]
        have e89 := VX.eq (vx_X1_freeStandFor (p1 := m 3 j 0) hW.1) h46
        have b89 := VX.lt (vx_X1_freeStandFor (p1 := m 3 j 0) hW.1) h46
        exact (FW.mono (fw_X2_put (FW.upS (FW.upA (FW.up hW rfl) (vx_X1_freeStandFor hW.1)) (VX_nI (by omega) (by decide))) (by omega)) (by omega))
  · rw [if_neg h21]
    exact (FW.mono hW (by omega))
theorem fl_X1_receive_2 {B : Nat} {m0 : Mem} {N : Nat} (hB : B + 12 < 2147483648) {m : Mem} (hNc : N ≤ 12) (hW : FW (B + 1 * 0) m0 m) : (FW (B + 1 * N) m0 (lf_X1_receive_2 N m)) := by
  rw [lf_X1_receive_2_eq]
  unfold ly_X1_receive_2
  exact itr_inv (n := N) (s := m) (P := fun jz s => (FW (B + 1 * jz) m0 s)) (fun jz s => bd_X1_receive_2 jz s) (fun jz s hj hs => fb_X1_receive_2 (B := B) (m0 := m0) hB (j := jz) (m := s) (by omega) hs) hW
theorem lp_X1_receive_2 {d n c s b : Nat} {M : JM} {o : JO} {hf : JH} {B : Nat} {m0 : Mem} {N : Nat} (hd : 1 ≤ d) (hB : B + 12 < 2147483648) (hNc : N ≤ 12) : ∀ (k j : Nat) (m : Mem), j + k = N → m 0 0 2 = nI N → (FW (B + 1 * j) m0 m) → JV (Ev mtab mcode d) jcX1_receive (113, [(0, .ref b)], []) (n, c, s, fm b (itr (fun jz s => bd_X1_receive_2 jz s) k j m) M) o hf → JV (Ev mtab mcode d) jcX1_receive (2, [(0, .ref b), (1, .int (nI j))], []) (n, c, s, fm b m M) o hf := by
  intro k
  induction k with
  | zero =>
    intro j m hj hN hW hc
    refine JV.ild (p2 := 3) rfl rfl rfl ?_
    refine JV.ald (p2 := 4) rfl rfl rfl ?_
    refine JV.getF2 (p2 := 7) rfl rfl ?_
    refine JV.brT rfl rfl (by rw [hN]; exact nI_le (a := N) (b := j) (by omega) (by omega)) ?_
    exact JV.keep [0] rfl hc
  | succ k ih =>
    intro j m hj hN hW hc
    obtain ⟨s1, hx⟩ : ∃ s1, bd_X1_receive_2 j m = s1 := ⟨_, rfl⟩
    have hc2 : JV (Ev mtab mcode d) jcX1_receive (113, [(0, .ref b)], []) (n, c, s, fm b (itr (fun jz s => bd_X1_receive_2 jz s) k (j + 1) s1) M) o hf := by
      subst hx
      exact hc
    clear hc
    have iv := fb_X1_receive_2 (B := B) (m0 := m0) hB (j := j) (m := m) (by omega) hW
    rw [hx] at iv
    unfold bd_X1_receive_2 at hx
    refine JV.ild (p2 := 3) rfl rfl rfl ?_
    refine JV.ald (p2 := 4) rfl rfl rfl ?_
    refine JV.getF2 (p2 := 7) rfl rfl ?_
    refine JV.brF (p2 := 10) rfl rfl rfl (by rw [hN]; exact nI_ge (a := j) (b := N) (by omega) (by omega)) ?_
    refine JV.ald (p2 := 11) rfl rfl rfl ?_
    refine JV.getFr2 (p2 := 14) rfl rfl ?_
    refine JV.ild (p2 := 15) rfl rfl rfl ?_
    refine JV.elA (p2 := 16) rfl rfl (by omega) rfl ?_
    refine JV.ast (p2 := 17) rfl rfl rfl ?_
    refine JV.ald (p2 := 18) rfl rfl rfl ?_
    refine JV.getA5 (p2 := 21) rfl (by omega) rfl ?_
    by_cases h21 : (m 3 j 5) = 0
    · rw [if_pos h21] at hx
      refine JV.brF (p2 := 24) rfl rfl rfl (fun e => e h21) ?_
      refine JV.ald (p2 := 25) rfl rfl rfl ?_
      refine JV.getA2 (p2 := 28) rfl (by omega) rfl ?_
      refine JV.ald (p2 := 29) rfl rfl rfl ?_
      refine JV.getF3 (p2 := 32) rfl rfl ?_
      by_cases h32 : (m 0 0 3) < (m 3 j 2)
      · rw [if_pos h32] at hx
        refine JV.brT rfl rfl h32 ?_
        refine JV.iinc (p2 := 110) rfl rfl (nI_1 _) rfl rfl ?_
        refine JV.goto rfl ?_
        refine JV.keep [0, 1] rfl ?_
        subst hx
        exact ih (j + 1) _ (by omega) ((FW.same iv hW (by decide)).trans hN) iv hc2
      · rw [if_neg h32] at hx
        refine JV.brF (p2 := 35) rfl rfl rfl h32 ?_
        refine JV.ald (p2 := 36) rfl rfl rfl ?_
        refine JV.ald (p2 := 37) rfl rfl rfl ?_
        refine JV.getA0 (p2 := 40) rfl (by omega) rfl ?_
        refine JV.invI (p2 := 43) rfl rfl rfl fm_F (Nat.le_of_ble_eq_true rfl) rfl (ev_X1_freeStandFor (by omega) hW.1 rfl) ?_
        refine JV.ist (p2 := 44) rfl rfl rfl ?_
        refine JV.ild (p2 := 45) rfl rfl rfl ?_
        refine JV.stk (len := 1) (sem := (s_push (.int (-1)))) (p2 := 46) rfl rfl rfl ?_
        by_cases h46 : (x_X1_freeStandFor m (m 3 j 0)) = (-1)
        · rw [if_pos h46] at hx
          refine JV.brF (p2 := 49) rfl rfl rfl (fun e => e h46) ?_
          refine JV.ald (p2 := 50) rfl rfl rfl ?_
          refine JV.stk (len := 1) (sem := (s_push (.int 2))) (p2 := 51) rfl rfl rfl ?_
          refine JV.putA5 (p2 := 54) rfl (by omega) rfl ?_
          refine JV.ald (p2 := 55) rfl rfl rfl ?_
          refine JV.inv0 (p2 := 58) rfl rfl rfl (fm_A (by omega)) (Nat.le_of_ble_eq_true rfl) rfl (ev_X0_takeBuses (by omega) (by omega) rfl) ?_
          refine JV.ald (p2 := 59) rfl rfl rfl ?_
          refine JV.getFr3 (p2 := 62) rfl rfl ?_
          refine JV.stk (len := 1) (sem := (s_push (.int 2))) (p2 := 63) rfl rfl rfl ?_
          refine JV.ald (p2 := 64) rfl rfl rfl ?_
          refine JV.getF3 (p2 := 67) rfl rfl ?_
          refine JV.ild (p2 := 68) rfl rfl rfl ?_
          refine JV.inv0 (p2 := 71) rfl rfl rfl fm_L (Nat.le_of_ble_eq_true rfl) rfl (ev_X2_put (by omega) (fw_X0_takeBuses (FW.up hW rfl)) (by omega) rfl) ?_
          refine JV.goto rfl ?_
          refine JV.iinc (p2 := 110) rfl rfl (nI_1 _) rfl rfl ?_
          refine JV.goto rfl ?_
          refine JV.keep [0, 1] rfl ?_
          subst hx
          exact ih (j + 1) _ (by omega) ((FW.same iv hW (by decide)).trans hN) iv hc2
        · rw [if_neg h46] at hx
          refine JV.brT rfl rfl h46 ?_
          refine JV.ald (p2 := 75) rfl rfl rfl ?_
          refine JV.stk (len := 1) (sem := (s_push (.int 1))) (p2 := 76) rfl rfl rfl ?_
          refine JV.putA5 (p2 := 79) rfl (by omega) rfl ?_
          refine JV.ald (p2 := 80) rfl rfl rfl ?_
          refine JV.ild (p2 := 81) rfl rfl rfl ?_
          refine JV.putA6 (p2 := 84) rfl (by omega) rfl ?_
          refine JV.ald (p2 := 85) rfl rfl rfl ?_
          refine JV.getFr0 (p2 := 88) rfl rfl ?_
          refine JV.ild (p2 := 89) rfl rfl rfl ?_
          have e89 := VX.eq (vx_X1_freeStandFor (p1 := m 3 j 0) hW.1) h46
          have b89 := VX.lt (vx_X1_freeStandFor (p1 := m 3 j 0) hW.1) h46
          refine JV.elS (p2 := 90) rfl e89 (by omega) rfl ?_
          refine JV.ild (p2 := 91) rfl rfl rfl ?_
          refine JV.putS1 (p2 := 94) rfl (by omega) rfl ?_
          refine JV.ald (p2 := 95) rfl rfl rfl ?_
          refine JV.getFr3 (p2 := 98) rfl rfl ?_
          refine JV.stk (len := 1) (sem := (s_push (.int 1))) (p2 := 99) rfl rfl rfl ?_
          refine JV.ald (p2 := 100) rfl rfl rfl ?_
          refine JV.getF3 (p2 := 103) rfl rfl ?_
          refine JV.ild (p2 := 104) rfl rfl rfl ?_
          refine JV.inv0 (p2 := 107) rfl rfl rfl fm_L (Nat.le_of_ble_eq_true rfl) rfl (ev_X2_put (by omega) (FW.upS (FW.upA (FW.up hW rfl) (vx_X1_freeStandFor hW.1)) (VX_nI (by omega) (by decide))) (by omega) rfl) ?_
          refine JV.iinc (p2 := 110) rfl rfl (nI_1 _) rfl rfl ?_
          refine JV.goto rfl ?_
          refine JV.keep [0, 1] rfl ?_
          subst hx
          exact ih (j + 1) _ (by omega) ((FW.same iv hW (by decide)).trans hN) iv hc2
    · rw [if_neg h21] at hx
      refine JV.brT rfl rfl h21 ?_
      refine JV.iinc (p2 := 110) rfl rfl (nI_1 _) rfl rfl ?_
      refine JV.goto rfl ?_
      refine JV.keep [0, 1] rfl ?_
      subst hx
      exact ih (j + 1) _ (by omega) ((FW.same iv hW (by decide)).trans hN) iv hc2
theorem lq_X1_receive_2 {d n c s b : Nat} {M : JM} {o : JO} {hf : JH} {B : Nat} {m0 : Mem} {N : Nat} {m : Mem} (hd : 1 ≤ d) (hB : B + 12 < 2147483648) (hNc : N ≤ 12) (hN : m 0 0 2 = nI N) (hW : FW (B + 1 * 0) m0 m) (hc : JV (Ev mtab mcode d) jcX1_receive (113, [(0, .ref b)], []) (n, c, s, fm b (lf_X1_receive_2 N m) M) o hf) : JV (Ev mtab mcode d) jcX1_receive (2, [(0, .ref b), (1, .int 0)], []) (n, c, s, fm b m M) o hf := by
  rw [lf_X1_receive_2_eq] at hc
  unfold ly_X1_receive_2 at hc
  exact lp_X1_receive_2 (B := B) (m0 := m0) hd hB hNc N 0 m (by omega) hN hW hc
noncomputable def y_X1_receive (m : Mem) : Mem := (lf_X1_receive_2 (ix (m 0 0 2)) m)
theorem xe_X1_receive : ∃ f, f = y_X1_receive := ⟨y_X1_receive, rfl⟩
noncomputable def x_X1_receive := Classical.choose xe_X1_receive
theorem x_X1_receive_eq : x_X1_receive = y_X1_receive := Classical.choose_spec xe_X1_receive
theorem ev_X1_receive {d n c s b : Nat} {m : Mem} {M : JM} {B : Nat} {m0 : Mem} {res : Mem} (hd : 2 ≤ d) (hW : FW B m0 m) (hB : B + 12 < 2147483648) (hx : x_X1_receive m = res) : Ev mtab mcode d 19 [.ref b] (n, c, s, fm b m M) (.inl none) (n, c, s, fm b res M) := by
  obtain ⟨d, rfl⟩ : ∃ e, d = e + 1 := ⟨d - 1, by omega⟩
  rw [x_X1_receive_eq] at hx
  unfold y_X1_receive at hx
  refine jv_mk (m := mX1_receive) (cd := jcX1_receive) rfl rfl (Nat.le_of_ble_eq_true rfl) trivial ?_
  refine JV.stk (len := 1) (sem := (s_push (.int 0))) (p2 := 1) rfl rfl rfl ?_
  refine JV.ist (p2 := 2) rfl rfl rfl ?_
  refine lq_X1_receive_2 (m := m) (N := (ix (m 0 0 2))) (B := B) (m0 := m0) (by omega) (by omega) hW.1.na.2 (FW.cN hW hW (by decide)) (FW.mono hW (by omega)) ?_
  subst hx
  exact JV.ret rfl (fun _ => rfl) rfl rfl
theorem fw_X1_receive {m : Mem} {B : Nat} {m0 : Mem} (hW : FW B m0 m) (hB : B + 12 < 2147483648) : FW (B + 12) m0 (x_X1_receive m) := by
  rw [x_X1_receive_eq]
  unfold y_X1_receive
  exact FW.mono (FW.mono (fl_X1_receive_2 (m := m) (N := (ix (m 0 0 2))) (B := B) (m0 := m0) (by omega) hW.1.na.2 (FW.mono hW (by omega))) (B' := B + 12) (by have hc9 := hW.1.na.2; omega)) (by omega)
noncomputable def y_X1_beginPush (m : Mem) (q : Nat) : Mem := (if (x_X1_freeTugFor m (m 3 q 1)) = (-1) then m else (if (m 3 q 5) = 2 then (x_X2_put (up3 (x_X5_take (up3 (up3 (x_X0_takeBuses m q) 3 q 5 4) 3 q 7 (((up3 (x_X0_takeBuses m q) 3 q 5 4) 0 0 3) - ((up3 (x_X0_takeBuses m q) 3 q 5 4) 3 q 3))) (ix (x_X1_freeTugFor m (m 3 q 1))) (nI q) 5) 2 (ix (x_X1_freeTugFor m (m 3 q 1))) 3 (((x_X5_take (up3 (up3 (x_X0_takeBuses m q) 3 q 5 4) 3 q 7 (((up3 (x_X0_takeBuses m q) 3 q 5 4) 0 0 3) - ((up3 (x_X0_takeBuses m q) 3 q 5 4) 3 q 3))) (ix (x_X1_freeTugFor m (m 3 q 1))) (nI q) 5) 2 (ix (x_X1_freeTugFor m (m 3 q 1))) 3) + 1)) 3 ((up3 (x_X5_take (up3 (up3 (x_X0_takeBuses m q) 3 q 5 4) 3 q 7 (((up3 (x_X0_takeBuses m q) 3 q 5 4) 0 0 3) - ((up3 (x_X0_takeBuses m q) 3 q 5 4) 3 q 3))) (ix (x_X1_freeTugFor m (m 3 q 1))) (nI q) 5) 2 (ix (x_X1_freeTugFor m (m 3 q 1))) 3 (((x_X5_take (up3 (up3 (x_X0_takeBuses m q) 3 q 5 4) 3 q 7 (((up3 (x_X0_takeBuses m q) 3 q 5 4) 0 0 3) - ((up3 (x_X0_takeBuses m q) 3 q 5 4) 3 q 3))) (ix (x_X1_freeTugFor m (m 3 q 1))) (nI q) 5) 2 (ix (x_X1_freeTugFor m (m 3 q 1))) 3) + 1)) 0 0 3) (nI q)) else (x_X2_put (up3 (x_X5_take (up3 (up3 m 3 q 5 4) 3 q 7 (((up3 m 3 q 5 4) 0 0 3) - ((up3 m 3 q 5 4) 3 q 3))) (ix (x_X1_freeTugFor m (m 3 q 1))) (nI q) 5) 2 (ix (x_X1_freeTugFor m (m 3 q 1))) 3 (((x_X5_take (up3 (up3 m 3 q 5 4) 3 q 7 (((up3 m 3 q 5 4) 0 0 3) - ((up3 m 3 q 5 4) 3 q 3))) (ix (x_X1_freeTugFor m (m 3 q 1))) (nI q) 5) 2 (ix (x_X1_freeTugFor m (m 3 q 1))) 3) + 1)) 3 ((up3 (x_X5_take (up3 (up3 m 3 q 5 4) 3 q 7 (((up3 m 3 q 5 4) 0 0 3) - ((up3 m 3 q 5 4) 3 q 3))) (ix (x_X1_freeTugFor m (m 3 q 1))) (nI q) 5) 2 (ix (x_X1_freeTugFor m (m 3 q 1))) 3 (((x_X5_take (up3 (up3 m 3 q 5 4) 3 q 7 (((up3 m 3 q 5 4) 0 0 3) - ((up3 m 3 q 5 4) 3 q 3))) (ix (x_X1_freeTugFor m (m 3 q 1))) (nI q) 5) 2 (ix (x_X1_freeTugFor m (m 3 q 1))) 3) + 1)) 0 0 3) (nI q))))
theorem xe_X1_beginPush : ∃ f, f = y_X1_beginPush := ⟨y_X1_beginPush, rfl⟩
noncomputable def x_X1_beginPush := Classical.choose xe_X1_beginPush
theorem x_X1_beginPush_eq : x_X1_beginPush = y_X1_beginPush := Classical.choose_spec xe_X1_beginPush
theorem ev_X1_beginPush {d n c s b : Nat} {m : Mem} {M : JM} {q : Nat} {v_q : Int32} {B : Nat} {m0 : Mem} {res : Mem} (hd : 2 ≤ d) (e_q : v_q = nI q) (hW : FW B m0 m) (hB : B + 1 < 2147483648) (hq : q < 12) (hx : x_X1_beginPush m q = res) : Ev mtab mcode d 23 [.ref b, .int v_q] (n, c, s, fm b m M) (.inl none) (n, c, s, fm b res M) := by
  obtain ⟨d, rfl⟩ : ∃ e, d = e + 1 := ⟨d - 1, by omega⟩
  subst e_q
  rw [x_X1_beginPush_eq] at hx
  unfold y_X1_beginPush at hx
  refine jv_mk (m := mX1_beginPush) (cd := jcX1_beginPush) rfl rfl (Nat.le_of_ble_eq_true rfl) trivial ?_
  refine JV.ald (p2 := 1) rfl rfl rfl ?_
  refine JV.getFr2 (p2 := 4) rfl rfl ?_
  refine JV.ild (p2 := 5) rfl rfl rfl ?_
  refine JV.elA (p2 := 6) rfl rfl (by omega) rfl ?_
  refine JV.ast (p2 := 7) rfl rfl rfl ?_
  refine JV.ald (p2 := 8) rfl rfl rfl ?_
  refine JV.ald (p2 := 9) rfl rfl rfl ?_
  refine JV.getA1 (p2 := 12) rfl (by omega) rfl ?_
  refine JV.invI (p2 := 15) rfl rfl rfl fm_F (Nat.le_of_ble_eq_true rfl) rfl (ev_X1_freeTugFor (by omega) hW.1 rfl) ?_
  refine JV.ist (p2 := 16) rfl rfl rfl ?_
  refine JV.ild (p2 := 17) rfl rfl rfl ?_
  refine JV.stk (len := 1) (sem := (s_push (.int (-1)))) (p2 := 18) rfl rfl rfl ?_
  by_cases h18 : (x_X1_freeTugFor m (m 3 q 1)) = (-1)
  · rw [if_pos h18] at hx
    refine JV.brF (p2 := 21) rfl rfl rfl (fun e => e h18) ?_
    subst hx
    exact JV.ret rfl (fun _ => rfl) rfl rfl
  · rw [if_neg h18] at hx
    refine JV.brT rfl rfl h18 ?_
    have e22 := VX.eq (vx_X1_freeTugFor (p1 := m 3 q 1) hW.1) h18
    have b22 := VX.lt (vx_X1_freeTugFor (p1 := m 3 q 1) hW.1) h18
    refine JV.ald (p2 := 23) rfl rfl rfl ?_
    refine JV.getA5 (p2 := 26) rfl (by omega) rfl ?_
    refine JV.stk (len := 1) (sem := (s_push (.int 2))) (p2 := 27) rfl rfl rfl ?_
    by_cases h27 : (m 3 q 5) = 2
    · rw [if_pos h27] at hx
      refine JV.brF (p2 := 30) rfl rfl rfl (fun e => e h27) ?_
      refine JV.ald (p2 := 31) rfl rfl rfl ?_
      refine JV.inv0 (p2 := 34) rfl rfl rfl (fm_A (by omega)) (Nat.le_of_ble_eq_true rfl) rfl (ev_X0_takeBuses (by omega) (by omega) rfl) ?_
      refine JV.ald (p2 := 35) rfl rfl rfl ?_
      refine JV.stk (len := 1) (sem := (s_push (.int 4))) (p2 := 36) rfl rfl rfl ?_
      refine JV.putA5 (p2 := 39) rfl (by omega) rfl ?_
      refine JV.ald (p2 := 40) rfl rfl rfl ?_
      refine JV.ald (p2 := 41) rfl rfl rfl ?_
      refine JV.getF3 (p2 := 44) rfl rfl ?_
      refine JV.ald (p2 := 45) rfl rfl rfl ?_
      refine JV.getA3 (p2 := 48) rfl (by omega) rfl ?_
      refine JV.stk (len := 1) (sem := s_isub) (p2 := 49) rfl rfl rfl ?_
      refine JV.putA7 (p2 := 52) rfl (by omega) rfl ?_
      refine JV.ald (p2 := 53) rfl rfl rfl ?_
      refine JV.getFr1 (p2 := 56) rfl rfl ?_
      refine JV.ild (p2 := 57) rfl rfl rfl ?_
      refine JV.elT (p2 := 58) rfl e22 (by omega) rfl ?_
      refine JV.ild (p2 := 59) rfl rfl rfl ?_
      refine JV.stk (len := 1) (sem := (s_push (.int 5))) (p2 := 60) rfl rfl rfl ?_
      refine JV.inv0 (p2 := 63) rfl rfl rfl (fm_T (by omega)) (Nat.le_of_ble_eq_true rfl) rfl (ev_X5_take (by omega) (by omega) rfl) ?_
      refine JV.ald (p2 := 64) rfl rfl rfl ?_
      refine JV.getFr1 (p2 := 67) rfl rfl ?_
      refine JV.ild (p2 := 68) rfl rfl rfl ?_
      refine JV.elT (p2 := 69) rfl e22 (by omega) rfl ?_
      refine JV.stk (len := 1) (sem := s_dup) (p2 := 70) rfl rfl rfl ?_
      refine JV.getT3 (p2 := 73) rfl (by omega) rfl ?_
      refine JV.stk (len := 1) (sem := (s_push (.int 1))) (p2 := 74) rfl rfl rfl ?_
      refine JV.stk (len := 1) (sem := s_iadd) (p2 := 75) rfl rfl rfl ?_
      refine JV.putT3 (p2 := 78) rfl (by omega) rfl ?_
      refine JV.ald (p2 := 79) rfl rfl rfl ?_
      refine JV.getFr3 (p2 := 82) rfl rfl ?_
      refine JV.stk (len := 1) (sem := (s_push (.int 3))) (p2 := 83) rfl rfl rfl ?_
      refine JV.ald (p2 := 84) rfl rfl rfl ?_
      refine JV.getF3 (p2 := 87) rfl rfl ?_
      refine JV.ild (p2 := 88) rfl rfl rfl ?_
      refine JV.inv0 (p2 := 91) rfl rfl rfl fm_L (Nat.le_of_ble_eq_true rfl) rfl (ev_X2_put (by omega) (FW.up (fw_X5_take (FW.up (FW.up (fw_X0_takeBuses hW) rfl) rfl) (VX_nI hq (by decide))) rfl) (by omega) rfl) ?_
      subst hx
      exact JV.ret rfl (fun _ => rfl) rfl rfl
    · rw [if_neg h27] at hx
      refine JV.brT rfl rfl h27 ?_
      refine JV.ald (p2 := 35) rfl rfl rfl ?_
      refine JV.stk (len := 1) (sem := (s_push (.int 4))) (p2 := 36) rfl rfl rfl ?_
      refine JV.putA5 (p2 := 39) rfl (by omega) rfl ?_
      refine JV.ald (p2 := 40) rfl rfl rfl ?_
      refine JV.ald (p2 := 41) rfl rfl rfl ?_
      refine JV.getF3 (p2 := 44) rfl rfl ?_
      refine JV.ald (p2 := 45) rfl rfl rfl ?_
      refine JV.getA3 (p2 := 48) rfl (by omega) rfl ?_
      refine JV.stk (len := 1) (sem := s_isub) (p2 := 49) rfl rfl rfl ?_
      refine JV.putA7 (p2 := 52) rfl (by omega) rfl ?_
      refine JV.ald (p2 := 53) rfl rfl rfl ?_
      refine JV.getFr1 (p2 := 56) rfl rfl ?_
      refine JV.ild (p2 := 57) rfl rfl rfl ?_
      refine JV.elT (p2 := 58) rfl e22 (by omega) rfl ?_
      refine JV.ild (p2 := 59) rfl rfl rfl ?_
      refine JV.stk (len := 1) (sem := (s_push (.int 5))) (p2 := 60) rfl rfl rfl ?_
      refine JV.inv0 (p2 := 63) rfl rfl rfl (fm_T (by omega)) (Nat.le_of_ble_eq_true rfl) rfl (ev_X5_take (by omega) (by omega) rfl) ?_
      refine JV.ald (p2 := 64) rfl rfl rfl ?_
      refine JV.getFr1 (p2 := 67) rfl rfl ?_
      refine JV.ild (p2 := 68) rfl rfl rfl ?_
      refine JV.elT (p2 := 69) rfl e22 (by omega) rfl ?_
      refine JV.stk (len := 1) (sem := s_dup) (p2 := 70) rfl rfl rfl ?_
      refine JV.getT3 (p2 := 73) rfl (by omega) rfl ?_
      refine JV.stk (len := 1) (sem := (s_push (.int 1))) (p2 := 74) rfl rfl rfl ?_
      refine JV.stk (len := 1) (sem := s_iadd) (p2 := 75) rfl rfl rfl ?_
      refine JV.putT3 (p2 := 78) rfl (by omega) rfl ?_
      refine JV.ald (p2 := 79) rfl rfl rfl ?_
      refine JV.getFr3 (p2 := 82) rfl rfl ?_
      refine JV.stk (len := 1) (sem := (s_push (.int 3))) (p2 := 83) rfl rfl rfl ?_
      refine JV.ald (p2 := 84) rfl rfl rfl ?_
      refine JV.getF3 (p2 := 87) rfl rfl ?_
      refine JV.ild (p2 := 88) rfl rfl rfl ?_
      refine JV.inv0 (p2 := 91) rfl rfl rfl fm_L (Nat.le_of_ble_eq_true rfl) rfl (ev_X2_put (by omega) (FW.up (fw_X5_take (FW.up (FW.up hW rfl) rfl) (VX_nI hq (by decide))) rfl) (by omega) rfl) ?_
      subst hx
      exact JV.ret rfl (fun _ => rfl) rfl rfl
theorem fw_X1_beginPush {m : Mem} {q : Nat} {v_q : Int32} {B : Nat} {m0 : Mem} (e_q : v_q = nI q) (hW : FW B m0 m) (hB : B + 1 < 2147483648) (hq : q < 12) : FW (B + 1) m0 (x_X1_beginPush m q) := by
  subst e_q
  rw [x_X1_beginPush_eq]
  unfold y_X1_beginPush
  by_cases h18 : (x_X1_freeTugFor m (m 3 q 1)) = (-1)
  · rw [if_pos h18]
    exact FW.mono hW (by omega)
  · rw [if_neg h18]
    have e22 := VX.eq (vx_X1_freeTugFor (p1 := m 3 q 1) hW.1) h18
    have b22 := VX.lt (vx_X1_freeTugFor (p1 := m 3 q 1) hW.1) h18
    by_cases h27 : (m 3 q 5) = 2
    · rw [if_pos h27]
      exact FW.mono (fw_X2_put (FW.up (fw_X5_take (FW.up (FW.up (fw_X0_takeBuses hW) rfl) rfl) (VX_nI hq (by decide))) rfl) (by omega)) (by omega)
    · rw [if_neg h27]
      exact FW.mono (fw_X2_put (FW.up (fw_X5_take (FW.up (FW.up hW rfl) rfl) (VX_nI hq (by decide))) rfl) (by omega)) (by omega)
noncomputable def bd_X1_tow_2 (j : Nat) (m : Mem) : Mem := (if (m 3 j 5) = 2 then (if ((m 0 0 3) + 30) < (m 3 j 3) then (if (x_X1_freeStandFor m (m 3 j 0)) = (-1) then m else (if (x_X1_freeTugFor m (m 3 j 1)) = (-1) then m else (x_X2_put (up3 (x_X5_take (up3 (up3 (up3 m 3 j 5 3) 3 j 6 (x_X1_freeStandFor m (m 3 j 0))) 1 (ix (x_X1_freeStandFor m (m 3 j 0))) 1 (nI j)) (ix (x_X1_freeTugFor m (m 3 j 1))) (nI j) 10) 2 (ix (x_X1_freeTugFor m (m 3 j 1))) 4 (((x_X5_take (up3 (up3 (up3 m 3 j 5 3) 3 j 6 (x_X1_freeStandFor m (m 3 j 0))) 1 (ix (x_X1_freeStandFor m (m 3 j 0))) 1 (nI j)) (ix (x_X1_freeTugFor m (m 3 j 1))) (nI j) 10) 2 (ix (x_X1_freeTugFor m (m 3 j 1))) 4) + 1)) 5 ((up3 (x_X5_take (up3 (up3 (up3 m 3 j 5 3) 3 j 6 (x_X1_freeStandFor m (m 3 j 0))) 1 (ix (x_X1_freeStandFor m (m 3 j 0))) 1 (nI j)) (ix (x_X1_freeTugFor m (m 3 j 1))) (nI j) 10) 2 (ix (x_X1_freeTugFor m (m 3 j 1))) 4 (((x_X5_take (up3 (up3 (up3 m 3 j 5 3) 3 j 6 (x_X1_freeStandFor m (m 3 j 0))) 1 (ix (x_X1_freeStandFor m (m 3 j 0))) 1 (nI j)) (ix (x_X1_freeTugFor m (m 3 j 1))) (nI j) 10) 2 (ix (x_X1_freeTugFor m (m 3 j 1))) 4) + 1)) 0 0 3) (nI j)))) else m) else m)
noncomputable def ly_X1_tow_2 (N : Nat) (m : Mem) : Mem := itr (fun jz s => bd_X1_tow_2 jz s) N 0 m
theorem le_X1_tow_2 : ∃ f, f = ly_X1_tow_2 := ⟨ly_X1_tow_2, rfl⟩
noncomputable def lf_X1_tow_2 := Classical.choose le_X1_tow_2
theorem lf_X1_tow_2_eq : lf_X1_tow_2 = ly_X1_tow_2 := Classical.choose_spec le_X1_tow_2
theorem fb_X1_tow_2 {B : Nat} {m0 : Mem} (hB : B + 12 < 2147483648) {j : Nat} {m : Mem} (hjN : j < 12) (hW : FW (B + 1 * j) m0 m) : (FW (B + 1 * (j + 1)) m0 (bd_X1_tow_2 j m)) := by
  unfold bd_X1_tow_2
  by_cases h22 : (m 3 j 5) = 2
  · rw [if_pos h22]
    by_cases h36 : ((m 0 0 3) + 30) < (m 3 j 3)
    · rw [if_pos h36]
      by_cases h60 : (x_X1_freeStandFor m (m 3 j 0)) = (-1)
      · rw [if_pos h60]
        exact (FW.mono hW (by omega))
      · rw [if_neg h60]
        by_cases h66 : (x_X1_freeTugFor m (m 3 j 1)) = (-1)
        · rw [if_pos h66]
          exact (FW.mono hW (by omega))
        · rw [if_neg h66]
          have e69 := VX.eq (vx_X1_freeStandFor (p1 := m 3 j 0) hW.1) h60
          have b69 := VX.lt (vx_X1_freeStandFor (p1 := m 3 j 0) hW.1) h60
          have e70 := VX.eq (vx_X1_freeTugFor (p1 := m 3 j 1) hW.1) h66
          have b70 := VX.lt (vx_X1_freeTugFor (p1 := m 3 j 1) hW.1) h66
          exact (FW.mono (fw_X2_put (FW.up (fw_X5_take (FW.upS (FW.upA (FW.up hW rfl) (vx_X1_freeStandFor hW.1)) (VX_nI (by omega) (by decide))) (VX_nI (by omega) (by decide))) rfl) (by omega)) (by omega))
    · rw [if_neg h36]
      exact (FW.mono hW (by omega))
  · rw [if_neg h22]
    exact (FW.mono hW (by omega))
theorem fl_X1_tow_2 {B : Nat} {m0 : Mem} {N : Nat} (hB : B + 12 < 2147483648) {m : Mem} (hNc : N ≤ 12) (hW : FW (B + 1 * 0) m0 m) : (FW (B + 1 * N) m0 (lf_X1_tow_2 N m)) := by
  rw [lf_X1_tow_2_eq]
  unfold ly_X1_tow_2
  exact itr_inv (n := N) (s := m) (P := fun jz s => (FW (B + 1 * jz) m0 s)) (fun jz s => bd_X1_tow_2 jz s) (fun jz s hj hs => fb_X1_tow_2 (B := B) (m0 := m0) hB (j := jz) (m := s) (by omega) hs) hW
theorem lp_X1_tow_2 {d n c s b : Nat} {M : JM} {o : JO} {hf : JH} {B : Nat} {m0 : Mem} {N : Nat} (hd : 1 ≤ d) (hB : B + 12 < 2147483648) (hNc : N ≤ 12) : ∀ (k j : Nat) (m : Mem), j + k = N → m 0 0 2 = nI N → (FW (B + 1 * j) m0 m) → JV (Ev mtab mcode d) jcX1_tow (137, [(0, .ref b)], []) (n, c, s, fm b (itr (fun jz s => bd_X1_tow_2 jz s) k j m) M) o hf → JV (Ev mtab mcode d) jcX1_tow (2, [(0, .ref b), (1, .int (nI j))], []) (n, c, s, fm b m M) o hf := by
  intro k
  induction k with
  | zero =>
    intro j m hj hN hW hc
    refine JV.ild (p2 := 3) rfl rfl rfl ?_
    refine JV.ald (p2 := 4) rfl rfl rfl ?_
    refine JV.getF2 (p2 := 7) rfl rfl ?_
    refine JV.brT rfl rfl (by rw [hN]; exact nI_le (a := N) (b := j) (by omega) (by omega)) ?_
    exact JV.keep [0] rfl hc
  | succ k ih =>
    intro j m hj hN hW hc
    obtain ⟨s1, hx⟩ : ∃ s1, bd_X1_tow_2 j m = s1 := ⟨_, rfl⟩
    have hc2 : JV (Ev mtab mcode d) jcX1_tow (137, [(0, .ref b)], []) (n, c, s, fm b (itr (fun jz s => bd_X1_tow_2 jz s) k (j + 1) s1) M) o hf := by
      subst hx
      exact hc
    clear hc
    have iv := fb_X1_tow_2 (B := B) (m0 := m0) hB (j := j) (m := m) (by omega) hW
    rw [hx] at iv
    unfold bd_X1_tow_2 at hx
    refine JV.ild (p2 := 3) rfl rfl rfl ?_
    refine JV.ald (p2 := 4) rfl rfl rfl ?_
    refine JV.getF2 (p2 := 7) rfl rfl ?_
    refine JV.brF (p2 := 10) rfl rfl rfl (by rw [hN]; exact nI_ge (a := j) (b := N) (by omega) (by omega)) ?_
    refine JV.ald (p2 := 11) rfl rfl rfl ?_
    refine JV.getFr2 (p2 := 14) rfl rfl ?_
    refine JV.ild (p2 := 15) rfl rfl rfl ?_
    refine JV.elA (p2 := 16) rfl rfl (by omega) rfl ?_
    refine JV.ast (p2 := 17) rfl rfl rfl ?_
    refine JV.ald (p2 := 18) rfl rfl rfl ?_
    refine JV.getA5 (p2 := 21) rfl (by omega) rfl ?_
    refine JV.stk (len := 1) (sem := (s_push (.int 2))) (p2 := 22) rfl rfl rfl ?_
    by_cases h22 : (m 3 j 5) = 2
    · rw [if_pos h22] at hx
      refine JV.brF (p2 := 25) rfl rfl rfl (fun e => e h22) ?_
      refine JV.ald (p2 := 26) rfl rfl rfl ?_
      refine JV.getA3 (p2 := 29) rfl (by omega) rfl ?_
      refine JV.ald (p2 := 30) rfl rfl rfl ?_
      refine JV.getF3 (p2 := 33) rfl rfl ?_
      refine JV.stk (len := 2) (sem := (s_push (.int 30))) (p2 := 35) rfl rfl rfl ?_
      refine JV.stk (len := 1) (sem := s_iadd) (p2 := 36) rfl rfl rfl ?_
      by_cases h36 : ((m 0 0 3) + 30) < (m 3 j 3)
      · rw [if_pos h36] at hx
        refine JV.brF (p2 := 39) rfl rfl rfl (Int32.not_le.mpr h36) ?_
        refine JV.ald (p2 := 40) rfl rfl rfl ?_
        refine JV.ald (p2 := 41) rfl rfl rfl ?_
        refine JV.getA0 (p2 := 44) rfl (by omega) rfl ?_
        refine JV.invI (p2 := 47) rfl rfl rfl fm_F (Nat.le_of_ble_eq_true rfl) rfl (ev_X1_freeStandFor (by omega) hW.1 rfl) ?_
        refine JV.ist (p2 := 48) rfl rfl rfl ?_
        refine JV.ald (p2 := 49) rfl rfl rfl ?_
        refine JV.ald (p2 := 50) rfl rfl rfl ?_
        refine JV.getA1 (p2 := 53) rfl (by omega) rfl ?_
        refine JV.invI (p2 := 56) rfl rfl rfl fm_F (Nat.le_of_ble_eq_true rfl) rfl (ev_X1_freeTugFor (by omega) hW.1 rfl) ?_
        refine JV.ist (p2 := 58) rfl rfl rfl ?_
        refine JV.ild (p2 := 59) rfl rfl rfl ?_
        refine JV.stk (len := 1) (sem := (s_push (.int (-1)))) (p2 := 60) rfl rfl rfl ?_
        by_cases h60 : (x_X1_freeStandFor m (m 3 j 0)) = (-1)
        · rw [if_pos h60] at hx
          refine JV.brT rfl rfl h60 ?_
          refine JV.iinc (p2 := 134) rfl rfl (nI_1 _) rfl rfl ?_
          refine JV.goto rfl ?_
          refine JV.keep [0, 1] rfl ?_
          subst hx
          exact ih (j + 1) _ (by omega) ((FW.same iv hW (by decide)).trans hN) iv hc2
        · rw [if_neg h60] at hx
          refine JV.brF (p2 := 63) rfl rfl rfl h60 ?_
          refine JV.ild (p2 := 65) rfl rfl rfl ?_
          refine JV.stk (len := 1) (sem := (s_push (.int (-1)))) (p2 := 66) rfl rfl rfl ?_
          by_cases h66 : (x_X1_freeTugFor m (m 3 j 1)) = (-1)
          · rw [if_pos h66] at hx
            refine JV.brT rfl rfl h66 ?_
            refine JV.iinc (p2 := 134) rfl rfl (nI_1 _) rfl rfl ?_
            refine JV.goto rfl ?_
            refine JV.keep [0, 1] rfl ?_
            subst hx
            exact ih (j + 1) _ (by omega) ((FW.same iv hW (by decide)).trans hN) iv hc2
          · rw [if_neg h66] at hx
            refine JV.brF (p2 := 69) rfl rfl rfl h66 ?_
            have e69 := VX.eq (vx_X1_freeStandFor (p1 := m 3 j 0) hW.1) h60
            have b69 := VX.lt (vx_X1_freeStandFor (p1 := m 3 j 0) hW.1) h60
            have e70 := VX.eq (vx_X1_freeTugFor (p1 := m 3 j 1) hW.1) h66
            have b70 := VX.lt (vx_X1_freeTugFor (p1 := m 3 j 1) hW.1) h66
            refine JV.ald (p2 := 70) rfl rfl rfl ?_
            refine JV.stk (len := 1) (sem := (s_push (.int 3))) (p2 := 71) rfl rfl rfl ?_
            refine JV.putA5 (p2 := 74) rfl (by omega) rfl ?_
            refine JV.ald (p2 := 75) rfl rfl rfl ?_
            refine JV.ild (p2 := 76) rfl rfl rfl ?_
            refine JV.putA6 (p2 := 79) rfl (by omega) rfl ?_
            refine JV.ald (p2 := 80) rfl rfl rfl ?_
            refine JV.getFr0 (p2 := 83) rfl rfl ?_
            refine JV.ild (p2 := 84) rfl rfl rfl ?_
            refine JV.elS (p2 := 85) rfl e69 (by omega) rfl ?_
            refine JV.ild (p2 := 86) rfl rfl rfl ?_
            refine JV.putS1 (p2 := 89) rfl (by omega) rfl ?_
            refine JV.ald (p2 := 90) rfl rfl rfl ?_
            refine JV.getFr1 (p2 := 93) rfl rfl ?_
            refine JV.ild (p2 := 95) rfl rfl rfl ?_
            refine JV.elT (p2 := 96) rfl e70 (by omega) rfl ?_
            refine JV.ild (p2 := 97) rfl rfl rfl ?_
            refine JV.stk (len := 2) (sem := (s_push (.int 10))) (p2 := 99) rfl rfl rfl ?_
            refine JV.inv0 (p2 := 102) rfl rfl rfl (fm_T (by omega)) (Nat.le_of_ble_eq_true rfl) rfl (ev_X5_take (by omega) (by omega) rfl) ?_
            refine JV.ald (p2 := 103) rfl rfl rfl ?_
            refine JV.getFr1 (p2 := 106) rfl rfl ?_
            refine JV.ild (p2 := 108) rfl rfl rfl ?_
            refine JV.elT (p2 := 109) rfl e70 (by omega) rfl ?_
            refine JV.stk (len := 1) (sem := s_dup) (p2 := 110) rfl rfl rfl ?_
            refine JV.getT4 (p2 := 113) rfl (by omega) rfl ?_
            refine JV.stk (len := 1) (sem := (s_push (.int 1))) (p2 := 114) rfl rfl rfl ?_
            refine JV.stk (len := 1) (sem := s_iadd) (p2 := 115) rfl rfl rfl ?_
            refine JV.putT4 (p2 := 118) rfl (by omega) rfl ?_
            refine JV.ald (p2 := 119) rfl rfl rfl ?_
            refine JV.getFr3 (p2 := 122) rfl rfl ?_
            refine JV.stk (len := 1) (sem := (s_push (.int 5))) (p2 := 123) rfl rfl rfl ?_
            refine JV.ald (p2 := 124) rfl rfl rfl ?_
            refine JV.getF3 (p2 := 127) rfl rfl ?_
            refine JV.ild (p2 := 128) rfl rfl rfl ?_
            refine JV.inv0 (p2 := 131) rfl rfl rfl fm_L (Nat.le_of_ble_eq_true rfl) rfl (ev_X2_put (by omega) (FW.up (fw_X5_take (FW.upS (FW.upA (FW.up hW rfl) (vx_X1_freeStandFor hW.1)) (VX_nI (by omega) (by decide))) (VX_nI (by omega) (by decide))) rfl) (by omega) rfl) ?_
            refine JV.iinc (p2 := 134) rfl rfl (nI_1 _) rfl rfl ?_
            refine JV.goto rfl ?_
            refine JV.keep [0, 1] rfl ?_
            subst hx
            exact ih (j + 1) _ (by omega) ((FW.same iv hW (by decide)).trans hN) iv hc2
      · rw [if_neg h36] at hx
        refine JV.brT rfl rfl (Int32.not_lt.mp h36) ?_
        refine JV.iinc (p2 := 134) rfl rfl (nI_1 _) rfl rfl ?_
        refine JV.goto rfl ?_
        refine JV.keep [0, 1] rfl ?_
        subst hx
        exact ih (j + 1) _ (by omega) ((FW.same iv hW (by decide)).trans hN) iv hc2
    · rw [if_neg h22] at hx
      refine JV.brT rfl rfl h22 ?_
      refine JV.iinc (p2 := 134) rfl rfl (nI_1 _) rfl rfl ?_
      refine JV.goto rfl ?_
      refine JV.keep [0, 1] rfl ?_
      subst hx
      exact ih (j + 1) _ (by omega) ((FW.same iv hW (by decide)).trans hN) iv hc2
theorem lq_X1_tow_2 {d n c s b : Nat} {M : JM} {o : JO} {hf : JH} {B : Nat} {m0 : Mem} {N : Nat} {m : Mem} (hd : 1 ≤ d) (hB : B + 12 < 2147483648) (hNc : N ≤ 12) (hN : m 0 0 2 = nI N) (hW : FW (B + 1 * 0) m0 m) (hc : JV (Ev mtab mcode d) jcX1_tow (137, [(0, .ref b)], []) (n, c, s, fm b (lf_X1_tow_2 N m) M) o hf) : JV (Ev mtab mcode d) jcX1_tow (2, [(0, .ref b), (1, .int 0)], []) (n, c, s, fm b m M) o hf := by
  rw [lf_X1_tow_2_eq] at hc
  unfold ly_X1_tow_2 at hc
  exact lp_X1_tow_2 (B := B) (m0 := m0) hd hB hNc N 0 m (by omega) hN hW hc
noncomputable def y_X1_tow (m : Mem) : Mem := (lf_X1_tow_2 (ix (m 0 0 2)) m)
theorem xe_X1_tow : ∃ f, f = y_X1_tow := ⟨y_X1_tow, rfl⟩
noncomputable def x_X1_tow := Classical.choose xe_X1_tow
theorem x_X1_tow_eq : x_X1_tow = y_X1_tow := Classical.choose_spec xe_X1_tow
theorem ev_X1_tow {d n c s b : Nat} {m : Mem} {M : JM} {B : Nat} {m0 : Mem} {res : Mem} (hd : 2 ≤ d) (hW : FW B m0 m) (hB : B + 12 < 2147483648) (hx : x_X1_tow m = res) : Ev mtab mcode d 24 [.ref b] (n, c, s, fm b m M) (.inl none) (n, c, s, fm b res M) := by
  obtain ⟨d, rfl⟩ : ∃ e, d = e + 1 := ⟨d - 1, by omega⟩
  rw [x_X1_tow_eq] at hx
  unfold y_X1_tow at hx
  refine jv_mk (m := mX1_tow) (cd := jcX1_tow) rfl rfl (Nat.le_of_ble_eq_true rfl) trivial ?_
  refine JV.stk (len := 1) (sem := (s_push (.int 0))) (p2 := 1) rfl rfl rfl ?_
  refine JV.ist (p2 := 2) rfl rfl rfl ?_
  refine lq_X1_tow_2 (m := m) (N := (ix (m 0 0 2))) (B := B) (m0 := m0) (by omega) (by omega) hW.1.na.2 (FW.cN hW hW (by decide)) (FW.mono hW (by omega)) ?_
  subst hx
  exact JV.ret rfl (fun _ => rfl) rfl rfl
theorem fw_X1_tow {m : Mem} {B : Nat} {m0 : Mem} (hW : FW B m0 m) (hB : B + 12 < 2147483648) : FW (B + 12) m0 (x_X1_tow m) := by
  rw [x_X1_tow_eq]
  unfold y_X1_tow
  exact FW.mono (FW.mono (fl_X1_tow_2 (m := m) (N := (ix (m 0 0 2))) (B := B) (m0 := m0) (by omega) hW.1.na.2 (FW.mono hW (by omega))) (B' := B + 12) (by have hc9 := hW.1.na.2; omega)) (by omega)
noncomputable def bd_X1_pushBack_4 (j : Nat) (m : Mem) (c1 : Int32) : Mem × Int32 := (if (x_X1_nextToLeave m c1) = (-1) then (m, c1) else (if (x_X1_reason m (ix (x_X1_nextToLeave m c1))) = 0 then ((x_X1_beginPush m (ix (x_X1_nextToLeave m c1))), (x_X1_turn (x_X1_beginPush m (ix (x_X1_nextToLeave m c1))) (ix (x_X1_nextToLeave m c1)))) else (m, (x_X1_turn m (ix (x_X1_nextToLeave m c1))))))
noncomputable def ly_X1_pushBack_4 (N : Nat) (m : Mem) (c1 : Int32) : Mem × Int32 := itr (fun jz s => bd_X1_pushBack_4 jz s.1 s.2) N 0 (m, c1)
theorem le_X1_pushBack_4 : ∃ f, f = ly_X1_pushBack_4 := ⟨ly_X1_pushBack_4, rfl⟩
noncomputable def lf_X1_pushBack_4 := Classical.choose le_X1_pushBack_4
theorem lf_X1_pushBack_4_eq : lf_X1_pushBack_4 = ly_X1_pushBack_4 := Classical.choose_spec le_X1_pushBack_4
theorem fb_X1_pushBack_4 {B : Nat} {m0 : Mem} (hB : B + 12 < 2147483648) {j : Nat} {m : Mem} {c1 : Int32} (hjN : j < 12) (hW : FW (B + 1 * j) m0 m) : (FW (B + 1 * (j + 1)) m0 (bd_X1_pushBack_4 j m c1).1) := by
  unfold bd_X1_pushBack_4
  by_cases h20 : (x_X1_nextToLeave m c1) = (-1)
  · rw [if_pos h20]
    try dsimp only
    exact (FW.mono hW (by omega))
  · rw [if_neg h20]
    have e24 := VX.eq (vx_X1_nextToLeave (p1 := c1) hW.1) h20
    have b24 := VX.lt (vx_X1_nextToLeave (p1 := c1) hW.1) h20
    by_cases h29 : (x_X1_reason m (ix (x_X1_nextToLeave m c1))) = 0
    · rw [if_pos h29]
      try dsimp only
      exact (FW.mono (fw_X1_beginPush (q := (ix (x_X1_nextToLeave m c1))) e24 hW (by omega) (by omega)) (by omega))
    · rw [if_neg h29]
      try dsimp only
      exact (FW.mono hW (by omega))
theorem fl_X1_pushBack_4 {B : Nat} {m0 : Mem} {N : Nat} (hB : B + 12 < 2147483648) {m : Mem} {c1 : Int32} (hNc : N ≤ 12) (hW : FW (B + 1 * 0) m0 m) : (FW (B + 1 * N) m0 (lf_X1_pushBack_4 N m c1).1) := by
  rw [lf_X1_pushBack_4_eq]
  unfold ly_X1_pushBack_4
  exact itr_inv (n := N) (s := (m, c1)) (P := fun jz s => (FW (B + 1 * jz) m0 s.1)) (fun jz s => bd_X1_pushBack_4 jz s.1 s.2) (fun jz s hj hs => fb_X1_pushBack_4 (B := B) (m0 := m0) hB (j := jz) (m := s.1) (c1 := s.2) (by omega) hs) hW
theorem lp_X1_pushBack_4 {d n c s b : Nat} {M : JM} {B : Nat} {m0 : Mem} {N : Nat} (hd : 2 ≤ d) (hB : B + 12 < 2147483648) (hNc : N ≤ 12) : ∀ (k j : Nat) (m : Mem) (c1 : Int32), j + k = N → m 0 0 2 = nI N → (FW (B + 1 * j) m0 m) → JV (Ev mtab mcode d) jcX1_pushBack (4, [(0, .ref b), (1, .int c1), (2, .int (nI j))], []) (n, c, s, fm b m M) (.inl none) (n, c, s, fm b ((itr (fun jz s => bd_X1_pushBack_4 jz s.1 s.2) k j (m, c1)).1) M) := by
  intro k
  induction k with
  | zero =>
    intro j m c1 hj hN hW
    refine JV.ild (p2 := 5) rfl rfl rfl ?_
    refine JV.ald (p2 := 6) rfl rfl rfl ?_
    refine JV.getF2 (p2 := 9) rfl rfl ?_
    refine JV.brT rfl rfl (by rw [hN]; exact nI_le (a := N) (b := j) (by omega) (by omega)) ?_
    exact JV.ret rfl (fun _ => rfl) rfl rfl
  | succ k ih =>
    intro j m c1 hj hN hW
    obtain ⟨s1, hx⟩ : ∃ s1, bd_X1_pushBack_4 j m c1 = s1 := ⟨_, rfl⟩
    rw [show itr (fun jz s => bd_X1_pushBack_4 jz s.1 s.2) (k + 1) j (m, c1) = itr (fun jz s => bd_X1_pushBack_4 jz s.1 s.2) k (j + 1) s1 from congrArg (itr (fun jz s => bd_X1_pushBack_4 jz s.1 s.2) k (j + 1)) hx]
    have iv := fb_X1_pushBack_4 (B := B) (m0 := m0) hB (j := j) (m := m) (c1 := c1) (by omega) hW
    rw [hx] at iv
    unfold bd_X1_pushBack_4 at hx
    refine JV.ild (p2 := 5) rfl rfl rfl ?_
    refine JV.ald (p2 := 6) rfl rfl rfl ?_
    refine JV.getF2 (p2 := 9) rfl rfl ?_
    refine JV.brF (p2 := 12) rfl rfl rfl (by rw [hN]; exact nI_ge (a := j) (b := N) (by omega) (by omega)) ?_
    refine JV.ald (p2 := 13) rfl rfl rfl ?_
    refine JV.ild (p2 := 14) rfl rfl rfl ?_
    refine JV.invI (p2 := 17) rfl rfl rfl fm_F (Nat.le_of_ble_eq_true rfl) rfl (ev_X1_nextToLeave (by omega) hW.1 rfl) ?_
    refine JV.ist (p2 := 18) rfl rfl rfl ?_
    refine JV.ild (p2 := 19) rfl rfl rfl ?_
    refine JV.stk (len := 1) (sem := (s_push (.int (-1)))) (p2 := 20) rfl rfl rfl ?_
    by_cases h20 : (x_X1_nextToLeave m c1) = (-1)
    · rw [if_pos h20] at hx
      refine JV.brF (p2 := 23) rfl rfl rfl (fun e => e h20) ?_
      subst hx
      have fx : ∀ jz, (fun jz s => bd_X1_pushBack_4 jz s.1 s.2) jz (m, c1) = (m, c1) := fun jz => by
        show bd_X1_pushBack_4 jz m c1 = _
        unfold bd_X1_pushBack_4
        rw [if_pos h20]
      rw [itr_fix (f := (fun jz s => bd_X1_pushBack_4 jz s.1 s.2)) (s := (m, c1)) fx]
      exact JV.ret rfl (fun _ => rfl) rfl rfl
    · rw [if_neg h20] at hx
      refine JV.brT rfl rfl h20 ?_
      have e24 := VX.eq (vx_X1_nextToLeave (p1 := c1) hW.1) h20
      have b24 := VX.lt (vx_X1_nextToLeave (p1 := c1) hW.1) h20
      refine JV.ald (p2 := 25) rfl rfl rfl ?_
      refine JV.ild (p2 := 26) rfl rfl rfl ?_
      refine JV.invI (p2 := 29) rfl rfl rfl fm_F (Nat.le_of_ble_eq_true rfl) rfl (ev_X1_reason (q := (ix (x_X1_nextToLeave m c1))) (by omega) e24 hW.1 (by omega) rfl) ?_
      by_cases h29 : (x_X1_reason m (ix (x_X1_nextToLeave m c1))) = 0
      · rw [if_pos h29] at hx
        refine JV.brF (p2 := 32) rfl rfl rfl (fun e => e h29) ?_
        refine JV.ald (p2 := 33) rfl rfl rfl ?_
        refine JV.ild (p2 := 34) rfl rfl rfl ?_
        refine JV.inv0 (p2 := 37) rfl rfl rfl fm_F (Nat.le_of_ble_eq_true rfl) rfl (ev_X1_beginPush (q := (ix (x_X1_nextToLeave m c1))) (by omega) e24 hW (by omega) (by omega) rfl) ?_
        refine JV.ald (p2 := 38) rfl rfl rfl ?_
        refine JV.ild (p2 := 39) rfl rfl rfl ?_
        refine JV.invI (p2 := 42) rfl rfl rfl fm_F (Nat.le_of_ble_eq_true rfl) rfl (ev_X1_turn (q := (ix (x_X1_nextToLeave m c1))) (by omega) e24 (by omega) rfl) ?_
        refine JV.ist (p2 := 43) rfl rfl rfl ?_
        refine JV.iinc (p2 := 46) rfl rfl (nI_1 _) rfl rfl ?_
        refine JV.goto rfl ?_
        refine JV.keep [0, 1, 2] rfl ?_
        subst hx
        exact ih (j + 1) _ _ (by omega) ((FW.same iv hW (by decide)).trans hN) iv
      · rw [if_neg h29] at hx
        refine JV.brT rfl rfl h29 ?_
        refine JV.ald (p2 := 38) rfl rfl rfl ?_
        refine JV.ild (p2 := 39) rfl rfl rfl ?_
        refine JV.invI (p2 := 42) rfl rfl rfl fm_F (Nat.le_of_ble_eq_true rfl) rfl (ev_X1_turn (q := (ix (x_X1_nextToLeave m c1))) (by omega) e24 (by omega) rfl) ?_
        refine JV.ist (p2 := 43) rfl rfl rfl ?_
        refine JV.iinc (p2 := 46) rfl rfl (nI_1 _) rfl rfl ?_
        refine JV.goto rfl ?_
        refine JV.keep [0, 1, 2] rfl ?_
        subst hx
        exact ih (j + 1) _ _ (by omega) ((FW.same iv hW (by decide)).trans hN) iv
theorem lq_X1_pushBack_4 {d n c s b : Nat} {M : JM} {B : Nat} {m0 : Mem} {N : Nat} {m : Mem} {c1 : Int32} (hd : 2 ≤ d) (hB : B + 12 < 2147483648) (hNc : N ≤ 12) (hN : m 0 0 2 = nI N) (hW : FW (B + 1 * 0) m0 m)  : JV (Ev mtab mcode d) jcX1_pushBack (4, [(0, .ref b), (1, .int c1), (2, .int 0)], []) (n, c, s, fm b m M) (.inl none) (n, c, s, fm b ((lf_X1_pushBack_4 N m c1).1) M) := by
  rw [lf_X1_pushBack_4_eq]
  unfold ly_X1_pushBack_4
  exact lp_X1_pushBack_4 (B := B) (m0 := m0) hd hB hNc N 0 m c1 (by omega) hN hW
noncomputable def y_X1_pushBack (m : Mem) : Mem := ((lf_X1_pushBack_4 (ix (m 0 0 2)) m (-1)).1)
theorem xe_X1_pushBack : ∃ f, f = y_X1_pushBack := ⟨y_X1_pushBack, rfl⟩
noncomputable def x_X1_pushBack := Classical.choose xe_X1_pushBack
theorem x_X1_pushBack_eq : x_X1_pushBack = y_X1_pushBack := Classical.choose_spec xe_X1_pushBack
theorem ev_X1_pushBack {d n c s b : Nat} {m : Mem} {M : JM} {B : Nat} {m0 : Mem} {res : Mem} (hd : 3 ≤ d) (hW : FW B m0 m) (hB : B + 12 < 2147483648) (hx : x_X1_pushBack m = res) : Ev mtab mcode d 20 [.ref b] (n, c, s, fm b m M) (.inl none) (n, c, s, fm b res M) := by
  obtain ⟨d, rfl⟩ : ∃ e, d = e + 1 := ⟨d - 1, by omega⟩
  rw [x_X1_pushBack_eq] at hx
  unfold y_X1_pushBack at hx
  refine jv_mk (m := mX1_pushBack) (cd := jcX1_pushBack) rfl rfl (Nat.le_of_ble_eq_true rfl) trivial ?_
  refine JV.stk (len := 1) (sem := (s_push (.int (-1)))) (p2 := 1) rfl rfl rfl ?_
  refine JV.ist (p2 := 2) rfl rfl rfl ?_
  refine JV.stk (len := 1) (sem := (s_push (.int 0))) (p2 := 3) rfl rfl rfl ?_
  refine JV.ist (p2 := 4) rfl rfl rfl ?_
  subst hx
  exact lq_X1_pushBack_4 (m := m) (c1 := (-1)) (N := (ix (m 0 0 2))) (B := B) (m0 := m0) (by omega) (by omega) hW.1.na.2 (FW.cN hW hW (by decide)) (FW.mono hW (by omega))
theorem fw_X1_pushBack {m : Mem} {B : Nat} {m0 : Mem} (hW : FW B m0 m) (hB : B + 12 < 2147483648) : FW (B + 12) m0 (x_X1_pushBack m) := by
  rw [x_X1_pushBack_eq]
  unfold y_X1_pushBack
  exact FW.mono (FW.mono (fl_X1_pushBack_4 (m := m) (c1 := (-1)) (N := (ix (m 0 0 2))) (B := B) (m0 := m0) (by omega) hW.1.na.2 (FW.mono hW (by omega))) (B' := B + 12) (by have hc9 := hW.1.na.2; omega)) (by omega)
noncomputable def bd_X1_countMinutes_2 (w1 : Int32) (j : Nat) (m : Mem) : Mem := (if (m 1 j 1) = (-1) then m else (up3 (up3 m 1 j 2 ((m 1 j 2) + w1)) 3 (ix ((up3 m 1 j 2 ((m 1 j 2) + w1)) 1 j 1)) 8 (((up3 m 1 j 2 ((m 1 j 2) + w1)) 3 (ix ((up3 m 1 j 2 ((m 1 j 2) + w1)) 1 j 1)) 8) + w1)))
noncomputable def ly_X1_countMinutes_2 (w1 : Int32) (N : Nat) (m : Mem) : Mem := itr (fun jz s => bd_X1_countMinutes_2 w1 jz s) N 0 m
theorem le_X1_countMinutes_2 : ∃ f, f = ly_X1_countMinutes_2 := ⟨ly_X1_countMinutes_2, rfl⟩
noncomputable def lf_X1_countMinutes_2 := Classical.choose le_X1_countMinutes_2
theorem lf_X1_countMinutes_2_eq : lf_X1_countMinutes_2 = ly_X1_countMinutes_2 := Classical.choose_spec le_X1_countMinutes_2
theorem fb_X1_countMinutes_2 {B : Nat} {m0 : Mem} {w1 : Int32} (hB : B + 0 < 2147483648) {j : Nat} {m : Mem} (hjN : j < 6) (hW : FW (B + 0 * j) m0 m) : (FW (B + 0 * (j + 1)) m0 (bd_X1_countMinutes_2 w1 j m)) := by
  unfold bd_X1_countMinutes_2
  by_cases h22 : (m 1 j 1) = (-1)
  · rw [if_pos h22]
    exact (FW.mono hW (by omega))
  · rw [if_neg h22]
    have e43 : (up3 m 1 j 2 ((m 1 j 2) + w1)) 1 j 1 = nI (ix ((up3 m 1 j 2 ((m 1 j 2) + w1)) 1 j 1)) := VX.eq ((FW.up hW rfl).1.st (by omega)) (by rw [up3_ne (by simp)]; exact h22)
    have b43 : ix ((up3 m 1 j 2 ((m 1 j 2) + w1)) 1 j 1) < 12 := VX.lt ((FW.up hW rfl).1.st (by omega)) (by rw [up3_ne (by simp)]; exact h22)
    exact (FW.mono (FW.up (FW.up hW rfl) rfl) (by omega))
theorem fl_X1_countMinutes_2 {B : Nat} {m0 : Mem} {w1 : Int32} {N : Nat} (hB : B + 0 < 2147483648) {m : Mem} (hNc : N ≤ 6) (hW : FW (B + 0 * 0) m0 m) : (FW (B + 0 * N) m0 (lf_X1_countMinutes_2 w1 N m)) := by
  rw [lf_X1_countMinutes_2_eq]
  unfold ly_X1_countMinutes_2
  exact itr_inv (n := N) (s := m) (P := fun jz s => (FW (B + 0 * jz) m0 s)) (fun jz s => bd_X1_countMinutes_2 w1 jz s) (fun jz s hj hs => fb_X1_countMinutes_2 (B := B) (m0 := m0) hB (j := jz) (m := s) (by omega) hs) hW
theorem lp_X1_countMinutes_2 {d n c s b : Nat} {M : JM} {o : JO} {hf : JH} {B : Nat} {m0 : Mem} {w1 : Int32} {N : Nat} (hd : 0 ≤ d) (hB : B + 0 < 2147483648) (hNc : N ≤ 6) : ∀ (k j : Nat) (m : Mem), j + k = N → m 0 0 0 = nI N → (FW (B + 0 * j) m0 m) → JV (Ev mtab mcode d) jcX1_countMinutes (59, [(0, .ref b), (1, .int w1)], []) (n, c, s, fm b (itr (fun jz s => bd_X1_countMinutes_2 w1 jz s) k j m) M) o hf → JV (Ev mtab mcode d) jcX1_countMinutes (2, [(0, .ref b), (1, .int w1), (2, .int (nI j))], []) (n, c, s, fm b m M) o hf := by
  intro k
  induction k with
  | zero =>
    intro j m hj hN hW hc
    refine JV.ild (p2 := 3) rfl rfl rfl ?_
    refine JV.ald (p2 := 4) rfl rfl rfl ?_
    refine JV.getF0 (p2 := 7) rfl rfl ?_
    refine JV.brT rfl rfl (by rw [hN]; exact nI_le (a := N) (b := j) (by omega) (by omega)) ?_
    exact JV.keep [0, 1] rfl hc
  | succ k ih =>
    intro j m hj hN hW hc
    obtain ⟨s1, hx⟩ : ∃ s1, bd_X1_countMinutes_2 w1 j m = s1 := ⟨_, rfl⟩
    have hc2 : JV (Ev mtab mcode d) jcX1_countMinutes (59, [(0, .ref b), (1, .int w1)], []) (n, c, s, fm b (itr (fun jz s => bd_X1_countMinutes_2 w1 jz s) k (j + 1) s1) M) o hf := by
      subst hx
      exact hc
    clear hc
    have iv := fb_X1_countMinutes_2 (B := B) (m0 := m0) (w1 := w1) hB (j := j) (m := m) (by omega) hW
    rw [hx] at iv
    unfold bd_X1_countMinutes_2 at hx
    refine JV.ild (p2 := 3) rfl rfl rfl ?_
    refine JV.ald (p2 := 4) rfl rfl rfl ?_
    refine JV.getF0 (p2 := 7) rfl rfl ?_
    refine JV.brF (p2 := 10) rfl rfl rfl (by rw [hN]; exact nI_ge (a := j) (b := N) (by omega) (by omega)) ?_
    refine JV.ald (p2 := 11) rfl rfl rfl ?_
    refine JV.getFr0 (p2 := 14) rfl rfl ?_
    refine JV.ild (p2 := 15) rfl rfl rfl ?_
    refine JV.elS (p2 := 16) rfl rfl (by omega) rfl ?_
    refine JV.ast (p2 := 17) rfl rfl rfl ?_
    refine JV.ald (p2 := 18) rfl rfl rfl ?_
    refine JV.getS1 (p2 := 21) rfl (by omega) rfl ?_
    refine JV.stk (len := 1) (sem := (s_push (.int (-1)))) (p2 := 22) rfl rfl rfl ?_
    by_cases h22 : (m 1 j 1) = (-1)
    · rw [if_pos h22] at hx
      refine JV.brT rfl rfl h22 ?_
      refine JV.iinc (p2 := 56) rfl rfl (nI_1 _) rfl rfl ?_
      refine JV.goto rfl ?_
      refine JV.keep [0, 1, 2] rfl ?_
      subst hx
      exact ih (j + 1) _ (by omega) ((FW.same iv hW (by decide)).trans hN) iv hc2
    · rw [if_neg h22] at hx
      refine JV.brF (p2 := 25) rfl rfl rfl h22 ?_
      refine JV.ald (p2 := 26) rfl rfl rfl ?_
      refine JV.stk (len := 1) (sem := s_dup) (p2 := 27) rfl rfl rfl ?_
      refine JV.getS2 (p2 := 30) rfl (by omega) rfl ?_
      refine JV.ild (p2 := 31) rfl rfl rfl ?_
      refine JV.stk (len := 1) (sem := s_iadd) (p2 := 32) rfl rfl rfl ?_
      refine JV.putS2 (p2 := 35) rfl (by omega) rfl ?_
      refine JV.ald (p2 := 36) rfl rfl rfl ?_
      refine JV.getFr2 (p2 := 39) rfl rfl ?_
      refine JV.ald (p2 := 40) rfl rfl rfl ?_
      refine JV.getS1 (p2 := 43) rfl (by omega) rfl ?_
      have e43 : (up3 m 1 j 2 ((m 1 j 2) + w1)) 1 j 1 = nI (ix ((up3 m 1 j 2 ((m 1 j 2) + w1)) 1 j 1)) := VX.eq ((FW.up hW rfl).1.st (by omega)) (by rw [up3_ne (by simp)]; exact h22)
      have b43 : ix ((up3 m 1 j 2 ((m 1 j 2) + w1)) 1 j 1) < 12 := VX.lt ((FW.up hW rfl).1.st (by omega)) (by rw [up3_ne (by simp)]; exact h22)
      refine JV.elA (p2 := 44) rfl e43 (by omega) rfl ?_
      refine JV.stk (len := 1) (sem := s_dup) (p2 := 45) rfl rfl rfl ?_
      refine JV.getA8 (p2 := 48) rfl (by omega) rfl ?_
      refine JV.ild (p2 := 49) rfl rfl rfl ?_
      refine JV.stk (len := 1) (sem := s_iadd) (p2 := 50) rfl rfl rfl ?_
      refine JV.putA8 (p2 := 53) rfl (by omega) rfl ?_
      refine JV.iinc (p2 := 56) rfl rfl (nI_1 _) rfl rfl ?_
      refine JV.goto rfl ?_
      refine JV.keep [0, 1, 2] rfl ?_
      subst hx
      exact ih (j + 1) _ (by omega) ((FW.same iv hW (by decide)).trans hN) iv hc2
theorem lq_X1_countMinutes_2 {d n c s b : Nat} {M : JM} {o : JO} {hf : JH} {B : Nat} {m0 : Mem} {w1 : Int32} {N : Nat} {m : Mem} (hd : 0 ≤ d) (hB : B + 0 < 2147483648) (hNc : N ≤ 6) (hN : m 0 0 0 = nI N) (hW : FW (B + 0 * 0) m0 m) (hc : JV (Ev mtab mcode d) jcX1_countMinutes (59, [(0, .ref b), (1, .int w1)], []) (n, c, s, fm b (lf_X1_countMinutes_2 w1 N m) M) o hf) : JV (Ev mtab mcode d) jcX1_countMinutes (2, [(0, .ref b), (1, .int w1), (2, .int 0)], []) (n, c, s, fm b m M) o hf := by
  rw [lf_X1_countMinutes_2_eq] at hc
  unfold ly_X1_countMinutes_2 at hc
  exact lp_X1_countMinutes_2 (B := B) (m0 := m0) hd hB hNc N 0 m (by omega) hN hW hc
noncomputable def y_X1_countMinutes (m : Mem) (p1 : Int32) : Mem := (lf_X1_countMinutes_2 p1 (ix (m 0 0 0)) m)
theorem xe_X1_countMinutes : ∃ f, f = y_X1_countMinutes := ⟨y_X1_countMinutes, rfl⟩
noncomputable def x_X1_countMinutes := Classical.choose xe_X1_countMinutes
theorem x_X1_countMinutes_eq : x_X1_countMinutes = y_X1_countMinutes := Classical.choose_spec xe_X1_countMinutes
theorem ev_X1_countMinutes {d n c s b : Nat} {m : Mem} {M : JM} {p1 : Int32} {B : Nat} {m0 : Mem} {res : Mem} (hd : 1 ≤ d) (hW : FW B m0 m) (hB : B + 0 < 2147483648) (hx : x_X1_countMinutes m p1 = res) : Ev mtab mcode d 25 [.ref b, .int p1] (n, c, s, fm b m M) (.inl none) (n, c, s, fm b res M) := by
  obtain ⟨d, rfl⟩ : ∃ e, d = e + 1 := ⟨d - 1, by omega⟩
  rw [x_X1_countMinutes_eq] at hx
  unfold y_X1_countMinutes at hx
  refine jv_mk (m := mX1_countMinutes) (cd := jcX1_countMinutes) rfl rfl (Nat.le_of_ble_eq_true rfl) trivial ?_
  refine JV.stk (len := 1) (sem := (s_push (.int 0))) (p2 := 1) rfl rfl rfl ?_
  refine JV.ist (p2 := 2) rfl rfl rfl ?_
  refine lq_X1_countMinutes_2 (m := m) (N := (ix (m 0 0 0))) (w1 := p1) (B := B) (m0 := m0) (by omega) (by omega) hW.1.ns.2 (FW.cN hW hW (by decide)) (FW.mono hW (by omega)) ?_
  subst hx
  exact JV.ret rfl (fun _ => rfl) rfl rfl
theorem fw_X1_countMinutes {m : Mem} {p1 : Int32} {B : Nat} {m0 : Mem} (hW : FW B m0 m) (hB : B + 0 < 2147483648) : FW (B + 0) m0 (x_X1_countMinutes m p1) := by
  rw [x_X1_countMinutes_eq]
  unfold y_X1_countMinutes
  exact FW.mono (FW.mono (fl_X1_countMinutes_2 (m := m) (N := (ix (m 0 0 0))) (w1 := p1) (B := B) (m0 := m0) (by omega) hW.1.ns.2 (FW.mono hW (by omega))) (B' := B + 0) (by have hc9 := hW.1.ns.2; omega)) (by omega)
noncomputable def bd_X1_passSome_55 (w1 : Int32) (w2 : Int32) (w3 : Int32) (j : Nat) (m : Mem) : Mem := (if (m 2 j 1) = (-1) then m else (up3 m 2 j 2 ((m 2 j 2) - w3)))
noncomputable def ly_X1_passSome_55 (w1 : Int32) (w2 : Int32) (w3 : Int32) (N : Nat) (m : Mem) : Mem := itr (fun jz s => bd_X1_passSome_55 w1 w2 w3 jz s) N 0 m
theorem le_X1_passSome_55 : ∃ f, f = ly_X1_passSome_55 := ⟨ly_X1_passSome_55, rfl⟩
noncomputable def lf_X1_passSome_55 := Classical.choose le_X1_passSome_55
theorem lf_X1_passSome_55_eq : lf_X1_passSome_55 = ly_X1_passSome_55 := Classical.choose_spec le_X1_passSome_55
theorem fb_X1_passSome_55 {B : Nat} {m0 : Mem} {w1 : Int32} {w2 : Int32} {w3 : Int32} (hB : B + 0 < 2147483648) {j : Nat} {m : Mem} (hjN : j < 3) (hW : FW (B + 0 * j) m0 m) : (FW (B + 0 * (j + 1)) m0 (bd_X1_passSome_55 w1 w2 w3 j m)) := by
  unfold bd_X1_passSome_55
  by_cases h75 : (m 2 j 1) = (-1)
  · rw [if_pos h75]
    exact (FW.mono hW (by omega))
  · rw [if_neg h75]
    exact (FW.mono (FW.up hW rfl) (by omega))
theorem fl_X1_passSome_55 {B : Nat} {m0 : Mem} {w1 : Int32} {w2 : Int32} {w3 : Int32} {N : Nat} (hB : B + 0 < 2147483648) {m : Mem} (hNc : N ≤ 3) (hW : FW (B + 0 * 0) m0 m) : (FW (B + 0 * N) m0 (lf_X1_passSome_55 w1 w2 w3 N m)) := by
  rw [lf_X1_passSome_55_eq]
  unfold ly_X1_passSome_55
  exact itr_inv (n := N) (s := m) (P := fun jz s => (FW (B + 0 * jz) m0 s)) (fun jz s => bd_X1_passSome_55 w1 w2 w3 jz s) (fun jz s hj hs => fb_X1_passSome_55 (B := B) (m0 := m0) hB (j := jz) (m := s) (by omega) hs) hW
theorem lp_X1_passSome_55 {d n c s b : Nat} {M : JM} {o : JO} {hf : JH} {B : Nat} {m0 : Mem} {w1 : Int32} {w2 : Int32} {w3 : Int32} {N : Nat} (hd : 3 ≤ d) (hB : B + 0 < 2147483648) (hNc : N ≤ 3) : ∀ (k j : Nat) (m : Mem), j + k = N → m 0 0 1 = nI N → (FW (B + 0 * j) m0 m) → JV (Ev mtab mcode d) jcX1_passSome (100, [(0, .ref b), (1, .int w1), (2, .int w2), (3, .int w3)], []) (n, c, s, fm b (itr (fun jz s => bd_X1_passSome_55 w1 w2 w3 jz s) k j m) M) o hf → JV (Ev mtab mcode d) jcX1_passSome (55, [(0, .ref b), (1, .int w1), (2, .int w2), (3, .int w3), (4, .int (nI j))], []) (n, c, s, fm b m M) o hf := by
  intro k
  induction k with
  | zero =>
    intro j m hj hN hW hc
    refine JV.ild (p2 := 57) rfl rfl rfl ?_
    refine JV.ald (p2 := 58) rfl rfl rfl ?_
    refine JV.getF1 (p2 := 61) rfl rfl ?_
    refine JV.brT rfl rfl (by rw [hN]; exact nI_le (a := N) (b := j) (by omega) (by omega)) ?_
    exact JV.keep [0, 1, 2, 3] rfl hc
  | succ k ih =>
    intro j m hj hN hW hc
    obtain ⟨s1, hx⟩ : ∃ s1, bd_X1_passSome_55 w1 w2 w3 j m = s1 := ⟨_, rfl⟩
    have hc2 : JV (Ev mtab mcode d) jcX1_passSome (100, [(0, .ref b), (1, .int w1), (2, .int w2), (3, .int w3)], []) (n, c, s, fm b (itr (fun jz s => bd_X1_passSome_55 w1 w2 w3 jz s) k (j + 1) s1) M) o hf := by
      subst hx
      exact hc
    clear hc
    have iv := fb_X1_passSome_55 (B := B) (m0 := m0) (w1 := w1) (w2 := w2) (w3 := w3) hB (j := j) (m := m) (by omega) hW
    rw [hx] at iv
    unfold bd_X1_passSome_55 at hx
    refine JV.ild (p2 := 57) rfl rfl rfl ?_
    refine JV.ald (p2 := 58) rfl rfl rfl ?_
    refine JV.getF1 (p2 := 61) rfl rfl ?_
    refine JV.brF (p2 := 64) rfl rfl rfl (by rw [hN]; exact nI_ge (a := j) (b := N) (by omega) (by omega)) ?_
    refine JV.ald (p2 := 65) rfl rfl rfl ?_
    refine JV.getFr1 (p2 := 68) rfl rfl ?_
    refine JV.ild (p2 := 70) rfl rfl rfl ?_
    refine JV.elT (p2 := 71) rfl rfl (by omega) rfl ?_
    refine JV.getT1 (p2 := 74) rfl (by omega) rfl ?_
    refine JV.stk (len := 1) (sem := (s_push (.int (-1)))) (p2 := 75) rfl rfl rfl ?_
    by_cases h75 : (m 2 j 1) = (-1)
    · rw [if_pos h75] at hx
      refine JV.brT rfl rfl h75 ?_
      refine JV.iinc (p2 := 97) rfl rfl (nI_1 _) rfl rfl ?_
      refine JV.goto rfl ?_
      subst hx
      exact ih (j + 1) _ (by omega) ((FW.same iv hW (by decide)).trans hN) iv hc2
    · rw [if_neg h75] at hx
      refine JV.brF (p2 := 78) rfl rfl rfl h75 ?_
      refine JV.ald (p2 := 79) rfl rfl rfl ?_
      refine JV.getFr1 (p2 := 82) rfl rfl ?_
      refine JV.ild (p2 := 84) rfl rfl rfl ?_
      refine JV.elT (p2 := 85) rfl rfl (by omega) rfl ?_
      refine JV.stk (len := 1) (sem := s_dup) (p2 := 86) rfl rfl rfl ?_
      refine JV.getT2 (p2 := 89) rfl (by omega) rfl ?_
      refine JV.ild (p2 := 90) rfl rfl rfl ?_
      refine JV.stk (len := 1) (sem := s_isub) (p2 := 91) rfl rfl rfl ?_
      refine JV.putT2 (p2 := 94) rfl (by omega) rfl ?_
      refine JV.iinc (p2 := 97) rfl rfl (nI_1 _) rfl rfl ?_
      refine JV.goto rfl ?_
      subst hx
      exact ih (j + 1) _ (by omega) ((FW.same iv hW (by decide)).trans hN) iv hc2
theorem lq_X1_passSome_55 {d n c s b : Nat} {M : JM} {o : JO} {hf : JH} {B : Nat} {m0 : Mem} {w1 : Int32} {w2 : Int32} {w3 : Int32} {N : Nat} {m : Mem} (hd : 3 ≤ d) (hB : B + 0 < 2147483648) (hNc : N ≤ 3) (hN : m 0 0 1 = nI N) (hW : FW (B + 0 * 0) m0 m) (hc : JV (Ev mtab mcode d) jcX1_passSome (100, [(0, .ref b), (1, .int w1), (2, .int w2), (3, .int w3)], []) (n, c, s, fm b (lf_X1_passSome_55 w1 w2 w3 N m) M) o hf) : JV (Ev mtab mcode d) jcX1_passSome (55, [(0, .ref b), (1, .int w1), (2, .int w2), (3, .int w3), (4, .int 0)], []) (n, c, s, fm b m M) o hf := by
  rw [lf_X1_passSome_55_eq] at hc
  unfold ly_X1_passSome_55 at hc
  exact lp_X1_passSome_55 (B := B) (m0 := m0) hd hB hNc N 0 m (by omega) hN hW hc
noncomputable def y_X1_passSome (m : Mem) (p1 : Int32) : Mem × Int32 := (if ((x_X1_tow (x_X1_pushBack (x_X1_receive (x_X1_workTugs m)))) 4 0 0) = (m 4 0 0) then ((up3 (x_X1_countMinutes (lf_X1_passSome_55 p1 (m 4 0 0) (if 0 < (if (p1 - 1) < (x_X1_quietMinutes (x_X1_tow (x_X1_pushBack (x_X1_receive (x_X1_workTugs m))))) then (p1 - 1) else (x_X1_quietMinutes (x_X1_tow (x_X1_pushBack (x_X1_receive (x_X1_workTugs m)))))) then (if (p1 - 1) < (x_X1_quietMinutes (x_X1_tow (x_X1_pushBack (x_X1_receive (x_X1_workTugs m))))) then (p1 - 1) else (x_X1_quietMinutes (x_X1_tow (x_X1_pushBack (x_X1_receive (x_X1_workTugs m)))))) else 0) (ix (m 0 0 1)) (x_X1_tow (x_X1_pushBack (x_X1_receive (x_X1_workTugs m))))) (1 + (if 0 < (if (p1 - 1) < (x_X1_quietMinutes (x_X1_tow (x_X1_pushBack (x_X1_receive (x_X1_workTugs m))))) then (p1 - 1) else (x_X1_quietMinutes (x_X1_tow (x_X1_pushBack (x_X1_receive (x_X1_workTugs m)))))) then (if (p1 - 1) < (x_X1_quietMinutes (x_X1_tow (x_X1_pushBack (x_X1_receive (x_X1_workTugs m))))) then (p1 - 1) else (x_X1_quietMinutes (x_X1_tow (x_X1_pushBack (x_X1_receive (x_X1_workTugs m)))))) else 0))) 0 0 3 (((x_X1_countMinutes (lf_X1_passSome_55 p1 (m 4 0 0) (if 0 < (if (p1 - 1) < (x_X1_quietMinutes (x_X1_tow (x_X1_pushBack (x_X1_receive (x_X1_workTugs m))))) then (p1 - 1) else (x_X1_quietMinutes (x_X1_tow (x_X1_pushBack (x_X1_receive (x_X1_workTugs m)))))) then (if (p1 - 1) < (x_X1_quietMinutes (x_X1_tow (x_X1_pushBack (x_X1_receive (x_X1_workTugs m))))) then (p1 - 1) else (x_X1_quietMinutes (x_X1_tow (x_X1_pushBack (x_X1_receive (x_X1_workTugs m)))))) else 0) (ix (m 0 0 1)) (x_X1_tow (x_X1_pushBack (x_X1_receive (x_X1_workTugs m))))) (1 + (if 0 < (if (p1 - 1) < (x_X1_quietMinutes (x_X1_tow (x_X1_pushBack (x_X1_receive (x_X1_workTugs m))))) then (p1 - 1) else (x_X1_quietMinutes (x_X1_tow (x_X1_pushBack (x_X1_receive (x_X1_workTugs m)))))) then (if (p1 - 1) < (x_X1_quietMinutes (x_X1_tow (x_X1_pushBack (x_X1_receive (x_X1_workTugs m))))) then (p1 - 1) else (x_X1_quietMinutes (x_X1_tow (x_X1_pushBack (x_X1_receive (x_X1_workTugs m)))))) else 0))) 0 0 3) + (1 + (if 0 < (if (p1 - 1) < (x_X1_quietMinutes (x_X1_tow (x_X1_pushBack (x_X1_receive (x_X1_workTugs m))))) then (p1 - 1) else (x_X1_quietMinutes (x_X1_tow (x_X1_pushBack (x_X1_receive (x_X1_workTugs m)))))) then (if (p1 - 1) < (x_X1_quietMinutes (x_X1_tow (x_X1_pushBack (x_X1_receive (x_X1_workTugs m))))) then (p1 - 1) else (x_X1_quietMinutes (x_X1_tow (x_X1_pushBack (x_X1_receive (x_X1_workTugs m)))))) else 0)))), (1 + (if 0 < (if (p1 - 1) < (x_X1_quietMinutes (x_X1_tow (x_X1_pushBack (x_X1_receive (x_X1_workTugs m))))) then (p1 - 1) else (x_X1_quietMinutes (x_X1_tow (x_X1_pushBack (x_X1_receive (x_X1_workTugs m)))))) then (if (p1 - 1) < (x_X1_quietMinutes (x_X1_tow (x_X1_pushBack (x_X1_receive (x_X1_workTugs m))))) then (p1 - 1) else (x_X1_quietMinutes (x_X1_tow (x_X1_pushBack (x_X1_receive (x_X1_workTugs m)))))) else 0))) else ((up3 (x_X1_countMinutes (lf_X1_passSome_55 p1 (m 4 0 0) 0 (ix (m 0 0 1)) (x_X1_tow (x_X1_pushBack (x_X1_receive (x_X1_workTugs m))))) (1 + 0)) 0 0 3 (((x_X1_countMinutes (lf_X1_passSome_55 p1 (m 4 0 0) 0 (ix (m 0 0 1)) (x_X1_tow (x_X1_pushBack (x_X1_receive (x_X1_workTugs m))))) (1 + 0)) 0 0 3) + (1 + 0))), (1 + 0)))
theorem xe_X1_passSome : ∃ f, f = y_X1_passSome := ⟨y_X1_passSome, rfl⟩
noncomputable def x_X1_passSome := Classical.choose xe_X1_passSome
theorem x_X1_passSome_eq : x_X1_passSome = y_X1_passSome := Classical.choose_spec xe_X1_passSome
theorem ev_X1_passSome {d n c s b : Nat} {m : Mem} {M : JM} {p1 : Int32} {B : Nat} {m0 : Mem} {res : Mem × Int32} (hd : 4 ≤ d) (hW : FW B m0 m) (hB : B + 39 < 2147483648) (hx : x_X1_passSome m p1 = res) : Ev mtab mcode d 15 [.ref b, .int p1] (n, c, s, fm b m M) (.inl (some (.int res.2))) (n, c, s, fm b res.1 M) := by
  obtain ⟨d, rfl⟩ : ∃ e, d = e + 1 := ⟨d - 1, by omega⟩
  rw [x_X1_passSome_eq] at hx
  unfold y_X1_passSome at hx
  refine jv_mk (m := mX1_passSome) (cd := jcX1_passSome) rfl rfl (Nat.le_of_ble_eq_true rfl) trivial ?_
  refine JV.ald (p2 := 1) rfl rfl rfl ?_
  refine JV.getFr3 (p2 := 4) rfl rfl ?_
  refine JV.getL0 (p2 := 7) rfl rfl ?_
  refine JV.ist (p2 := 8) rfl rfl rfl ?_
  refine JV.ald (p2 := 9) rfl rfl rfl ?_
  refine JV.inv0 (p2 := 12) rfl rfl rfl fm_F (Nat.le_of_ble_eq_true rfl) rfl (ev_X1_workTugs (by omega) hW (by omega) rfl) ?_
  refine JV.ald (p2 := 13) rfl rfl rfl ?_
  refine JV.inv0 (p2 := 16) rfl rfl rfl fm_F (Nat.le_of_ble_eq_true rfl) rfl (ev_X1_receive (by omega) (fw_X1_workTugs hW (by omega)) (by omega) rfl) ?_
  refine JV.ald (p2 := 17) rfl rfl rfl ?_
  refine JV.inv0 (p2 := 20) rfl rfl rfl fm_F (Nat.le_of_ble_eq_true rfl) rfl (ev_X1_pushBack (by omega) (fw_X1_receive (fw_X1_workTugs hW (by omega)) (by omega)) (by omega) rfl) ?_
  refine JV.ald (p2 := 21) rfl rfl rfl ?_
  refine JV.inv0 (p2 := 24) rfl rfl rfl fm_F (Nat.le_of_ble_eq_true rfl) rfl (ev_X1_tow (by omega) (fw_X1_pushBack (fw_X1_receive (fw_X1_workTugs hW (by omega)) (by omega)) (by omega)) (by omega) rfl) ?_
  refine JV.stk (len := 1) (sem := (s_push (.int 0))) (p2 := 25) rfl rfl rfl ?_
  refine JV.ist (p2 := 26) rfl rfl rfl ?_
  refine JV.ald (p2 := 27) rfl rfl rfl ?_
  refine JV.getFr3 (p2 := 30) rfl rfl ?_
  refine JV.getL0 (p2 := 33) rfl rfl ?_
  refine JV.ild (p2 := 34) rfl rfl rfl ?_
  by_cases h34 : ((x_X1_tow (x_X1_pushBack (x_X1_receive (x_X1_workTugs m)))) 4 0 0) = (m 4 0 0)
  · rw [if_pos h34] at hx
    refine JV.brF (p2 := 37) rfl rfl rfl (fun e => e h34) ?_
    refine JV.stk (len := 1) (sem := (s_push (.int 0))) (p2 := 38) rfl rfl rfl ?_
    refine JV.ald (p2 := 39) rfl rfl rfl ?_
    refine JV.invI (p2 := 42) rfl rfl rfl fm_F (Nat.le_of_ble_eq_true rfl) rfl (ev_X1_quietMinutes (by omega) (fw_X1_tow (fw_X1_pushBack (fw_X1_receive (fw_X1_workTugs hW (by omega)) (by omega)) (by omega)) (by omega)).1 rfl) ?_
    refine JV.ild (p2 := 43) rfl rfl rfl ?_
    refine JV.stk (len := 1) (sem := (s_push (.int 1))) (p2 := 44) rfl rfl rfl ?_
    refine JV.stk (len := 1) (sem := s_isub) (p2 := 45) rfl rfl rfl ?_
    refine JV.mmin (p2 := 48) rfl (Nat.le_of_ble_eq_true rfl) rfl ?_
    refine JV.mmax (p2 := 51) rfl (Nat.le_of_ble_eq_true rfl) rfl ?_
    refine JV.ist (p2 := 52) rfl rfl rfl ?_
    refine JV.stk (len := 1) (sem := (s_push (.int 0))) (p2 := 53) rfl rfl rfl ?_
    refine JV.ist (p2 := 55) rfl rfl rfl ?_
    refine lq_X1_passSome_55 (m := (x_X1_tow (x_X1_pushBack (x_X1_receive (x_X1_workTugs m))))) (N := (ix (m 0 0 1))) (w1 := p1) (w2 := (m 4 0 0)) (w3 := (if 0 < (if (p1 - 1) < (x_X1_quietMinutes (x_X1_tow (x_X1_pushBack (x_X1_receive (x_X1_workTugs m))))) then (p1 - 1) else (x_X1_quietMinutes (x_X1_tow (x_X1_pushBack (x_X1_receive (x_X1_workTugs m)))))) then (if (p1 - 1) < (x_X1_quietMinutes (x_X1_tow (x_X1_pushBack (x_X1_receive (x_X1_workTugs m))))) then (p1 - 1) else (x_X1_quietMinutes (x_X1_tow (x_X1_pushBack (x_X1_receive (x_X1_workTugs m)))))) else 0)) (B := B + 39) (m0 := m0) (by omega) (by omega) hW.1.nt.2 (FW.cN (fw_X1_tow (fw_X1_pushBack (fw_X1_receive (fw_X1_workTugs hW (by omega)) (by omega)) (by omega)) (by omega)) hW (by decide)) (FW.mono (fw_X1_tow (fw_X1_pushBack (fw_X1_receive (fw_X1_workTugs hW (by omega)) (by omega)) (by omega)) (by omega)) (by omega)) ?_
    refine JV.ald (p2 := 101) rfl rfl rfl ?_
    refine JV.stk (len := 1) (sem := (s_push (.int 1))) (p2 := 102) rfl rfl rfl ?_
    refine JV.ild (p2 := 103) rfl rfl rfl ?_
    refine JV.stk (len := 1) (sem := s_iadd) (p2 := 104) rfl rfl rfl ?_
    refine JV.inv0 (p2 := 107) rfl rfl rfl fm_F (Nat.le_of_ble_eq_true rfl) rfl (ev_X1_countMinutes (by omega) (FW.mono (fl_X1_passSome_55 (m := (x_X1_tow (x_X1_pushBack (x_X1_receive (x_X1_workTugs m))))) (N := (ix (m 0 0 1))) (w1 := p1) (w2 := (m 4 0 0)) (w3 := (if 0 < (if (p1 - 1) < (x_X1_quietMinutes (x_X1_tow (x_X1_pushBack (x_X1_receive (x_X1_workTugs m))))) then (p1 - 1) else (x_X1_quietMinutes (x_X1_tow (x_X1_pushBack (x_X1_receive (x_X1_workTugs m)))))) then (if (p1 - 1) < (x_X1_quietMinutes (x_X1_tow (x_X1_pushBack (x_X1_receive (x_X1_workTugs m))))) then (p1 - 1) else (x_X1_quietMinutes (x_X1_tow (x_X1_pushBack (x_X1_receive (x_X1_workTugs m)))))) else 0)) (B := B + 39) (m0 := m0) (by omega) hW.1.nt.2 (FW.mono (fw_X1_tow (fw_X1_pushBack (fw_X1_receive (fw_X1_workTugs hW (by omega)) (by omega)) (by omega)) (by omega)) (by omega))) (B' := B + 39) (by have hc9 := hW.1.nt.2; omega)) (by omega) rfl) ?_
    refine JV.ald (p2 := 108) rfl rfl rfl ?_
    refine JV.stk (len := 1) (sem := s_dup) (p2 := 109) rfl rfl rfl ?_
    refine JV.getF3 (p2 := 112) rfl rfl ?_
    refine JV.stk (len := 1) (sem := (s_push (.int 1))) (p2 := 113) rfl rfl rfl ?_
    refine JV.ild (p2 := 114) rfl rfl rfl ?_
    refine JV.stk (len := 1) (sem := s_iadd) (p2 := 115) rfl rfl rfl ?_
    refine JV.stk (len := 1) (sem := s_iadd) (p2 := 116) rfl rfl rfl ?_
    refine JV.putF3 (p2 := 119) rfl rfl ?_
    refine JV.stk (len := 1) (sem := (s_push (.int 1))) (p2 := 120) rfl rfl rfl ?_
    refine JV.ild (p2 := 121) rfl rfl rfl ?_
    refine JV.stk (len := 1) (sem := s_iadd) (p2 := 122) rfl rfl rfl ?_
    subst hx
    exact JV.ret rfl (fun _ => rfl) rfl rfl
  · rw [if_neg h34] at hx
    refine JV.brT rfl rfl h34 ?_
    refine JV.stk (len := 1) (sem := (s_push (.int 0))) (p2 := 53) rfl rfl rfl ?_
    refine JV.ist (p2 := 55) rfl rfl rfl ?_
    refine lq_X1_passSome_55 (m := (x_X1_tow (x_X1_pushBack (x_X1_receive (x_X1_workTugs m))))) (N := (ix (m 0 0 1))) (w1 := p1) (w2 := (m 4 0 0)) (w3 := 0) (B := B + 39) (m0 := m0) (by omega) (by omega) hW.1.nt.2 (FW.cN (fw_X1_tow (fw_X1_pushBack (fw_X1_receive (fw_X1_workTugs hW (by omega)) (by omega)) (by omega)) (by omega)) hW (by decide)) (FW.mono (fw_X1_tow (fw_X1_pushBack (fw_X1_receive (fw_X1_workTugs hW (by omega)) (by omega)) (by omega)) (by omega)) (by omega)) ?_
    refine JV.ald (p2 := 101) rfl rfl rfl ?_
    refine JV.stk (len := 1) (sem := (s_push (.int 1))) (p2 := 102) rfl rfl rfl ?_
    refine JV.ild (p2 := 103) rfl rfl rfl ?_
    refine JV.stk (len := 1) (sem := s_iadd) (p2 := 104) rfl rfl rfl ?_
    refine JV.inv0 (p2 := 107) rfl rfl rfl fm_F (Nat.le_of_ble_eq_true rfl) rfl (ev_X1_countMinutes (by omega) (FW.mono (fl_X1_passSome_55 (m := (x_X1_tow (x_X1_pushBack (x_X1_receive (x_X1_workTugs m))))) (N := (ix (m 0 0 1))) (w1 := p1) (w2 := (m 4 0 0)) (w3 := 0) (B := B + 39) (m0 := m0) (by omega) hW.1.nt.2 (FW.mono (fw_X1_tow (fw_X1_pushBack (fw_X1_receive (fw_X1_workTugs hW (by omega)) (by omega)) (by omega)) (by omega)) (by omega))) (B' := B + 39) (by have hc9 := hW.1.nt.2; omega)) (by omega) rfl) ?_
    refine JV.ald (p2 := 108) rfl rfl rfl ?_
    refine JV.stk (len := 1) (sem := s_dup) (p2 := 109) rfl rfl rfl ?_
    refine JV.getF3 (p2 := 112) rfl rfl ?_
    refine JV.stk (len := 1) (sem := (s_push (.int 1))) (p2 := 113) rfl rfl rfl ?_
    refine JV.ild (p2 := 114) rfl rfl rfl ?_
    refine JV.stk (len := 1) (sem := s_iadd) (p2 := 115) rfl rfl rfl ?_
    refine JV.stk (len := 1) (sem := s_iadd) (p2 := 116) rfl rfl rfl ?_
    refine JV.putF3 (p2 := 119) rfl rfl ?_
    refine JV.stk (len := 1) (sem := (s_push (.int 1))) (p2 := 120) rfl rfl rfl ?_
    refine JV.ild (p2 := 121) rfl rfl rfl ?_
    refine JV.stk (len := 1) (sem := s_iadd) (p2 := 122) rfl rfl rfl ?_
    subst hx
    exact JV.ret rfl (fun _ => rfl) rfl rfl
theorem fw_X1_passSome {m : Mem} {p1 : Int32} {B : Nat} {m0 : Mem} (hW : FW B m0 m) (hB : B + 39 < 2147483648) : FW (B + 39) m0 (x_X1_passSome m p1).1 := by
  rw [x_X1_passSome_eq]
  unfold y_X1_passSome
  by_cases h34 : ((x_X1_tow (x_X1_pushBack (x_X1_receive (x_X1_workTugs m)))) 4 0 0) = (m 4 0 0)
  · rw [if_pos h34]
    try dsimp only
    exact FW.mono (FW.up (fw_X1_countMinutes (FW.mono (fl_X1_passSome_55 (m := (x_X1_tow (x_X1_pushBack (x_X1_receive (x_X1_workTugs m))))) (N := (ix (m 0 0 1))) (w1 := p1) (w2 := (m 4 0 0)) (w3 := (if 0 < (if (p1 - 1) < (x_X1_quietMinutes (x_X1_tow (x_X1_pushBack (x_X1_receive (x_X1_workTugs m))))) then (p1 - 1) else (x_X1_quietMinutes (x_X1_tow (x_X1_pushBack (x_X1_receive (x_X1_workTugs m)))))) then (if (p1 - 1) < (x_X1_quietMinutes (x_X1_tow (x_X1_pushBack (x_X1_receive (x_X1_workTugs m))))) then (p1 - 1) else (x_X1_quietMinutes (x_X1_tow (x_X1_pushBack (x_X1_receive (x_X1_workTugs m)))))) else 0)) (B := B + 39) (m0 := m0) (by omega) hW.1.nt.2 (FW.mono (fw_X1_tow (fw_X1_pushBack (fw_X1_receive (fw_X1_workTugs hW (by omega)) (by omega)) (by omega)) (by omega)) (by omega))) (B' := B + 39) (by have hc9 := hW.1.nt.2; omega)) (by omega)) rfl) (by omega)
  · rw [if_neg h34]
    try dsimp only
    exact FW.mono (FW.up (fw_X1_countMinutes (FW.mono (fl_X1_passSome_55 (m := (x_X1_tow (x_X1_pushBack (x_X1_receive (x_X1_workTugs m))))) (N := (ix (m 0 0 1))) (w1 := p1) (w2 := (m 4 0 0)) (w3 := 0) (B := B + 39) (m0 := m0) (by omega) hW.1.nt.2 (FW.mono (fw_X1_tow (fw_X1_pushBack (fw_X1_receive (fw_X1_workTugs hW (by omega)) (by omega)) (by omega)) (by omega)) (by omega))) (B' := B + 39) (by have hc9 := hW.1.nt.2; omega)) (by omega)) rfl) (by omega)
noncomputable def bd_X1_passUntilAllGone_4 (j : Nat) (m : Mem) (c1 : Int32) : Mem × Int32 := (if c1 < 3000 then (if (x_X1_areAllGone m) = true then (m, c1) else ((x_X1_passSome m (3000 - c1)).1, (c1 + (x_X1_passSome m (3000 - c1)).2))) else (m, c1))
noncomputable def ly_X1_passUntilAllGone_4 (N : Nat) (m : Mem) (c1 : Int32) : Mem × Int32 := itr (fun jz s => bd_X1_passUntilAllGone_4 jz s.1 s.2) N 0 (m, c1)
theorem le_X1_passUntilAllGone_4 : ∃ f, f = ly_X1_passUntilAllGone_4 := ⟨ly_X1_passUntilAllGone_4, rfl⟩
noncomputable def lf_X1_passUntilAllGone_4 := Classical.choose le_X1_passUntilAllGone_4
theorem lf_X1_passUntilAllGone_4_eq : lf_X1_passUntilAllGone_4 = ly_X1_passUntilAllGone_4 := Classical.choose_spec le_X1_passUntilAllGone_4
theorem fb_X1_passUntilAllGone_4 {B : Nat} {m0 : Mem} (hB : B + 117000 < 2147483648) {j : Nat} {m : Mem} {c1 : Int32} (hjN : j < 3000) (hW : FW (B + 39 * j) m0 m) : (FW (B + 39 * (j + 1)) m0 (bd_X1_passUntilAllGone_4 j m c1).1) := by
  unfold bd_X1_passUntilAllGone_4
  by_cases h15 : c1 < 3000
  · rw [if_pos h15]
    by_cases h22 : (x_X1_areAllGone m) = true
    · rw [if_pos h22]
      try dsimp only
      exact (FW.mono hW (by omega))
    · rw [if_neg h22]
      try dsimp only
      exact (FW.mono (fw_X1_passSome hW (by omega)) (by omega))
  · rw [if_neg h15]
    try dsimp only
    exact (FW.mono hW (by omega))
theorem fl_X1_passUntilAllGone_4 {B : Nat} {m0 : Mem} (hB : B + 117000 < 2147483648) {m : Mem} {c1 : Int32} {N : Nat} (hNl : N = 3000) (hW : FW (B + 39 * 0) m0 m) : (FW (B + 39 * N) m0 (lf_X1_passUntilAllGone_4 N m c1).1) := by
  rw [lf_X1_passUntilAllGone_4_eq]
  unfold ly_X1_passUntilAllGone_4
  exact itr_inv (n := N) (s := (m, c1)) (P := fun jz s => (FW (B + 39 * jz) m0 s.1)) (fun jz s => bd_X1_passUntilAllGone_4 jz s.1 s.2) (fun jz s hj hs => fb_X1_passUntilAllGone_4 (B := B) (m0 := m0) hB (j := jz) (m := s.1) (c1 := s.2) (by omega) hs) hW
theorem lp_X1_passUntilAllGone_4 {d n c s b : Nat} {M : JM} {o : JO} {hf : JH} {B : Nat} {m0 : Mem} (hd : 4 ≤ d) (hB : B + 117000 < 2147483648) : ∀ (k j : Nat) (m : Mem) (c1 : Int32), j + k = 3000 → (FW (B + 39 * j) m0 m) → JV (Ev mtab mcode d) jcX1_passUntilAllGone (43, [(0, .ref b), (1, .int ((itr (fun jz s => bd_X1_passUntilAllGone_4 jz s.1 s.2) k j (m, c1)).2))], []) (n, c, s, fm b ((itr (fun jz s => bd_X1_passUntilAllGone_4 jz s.1 s.2) k j (m, c1)).1) M) o hf → JV (Ev mtab mcode d) jcX1_passUntilAllGone (4, [(0, .ref b), (1, .int c1), (2, .int (nI j))], []) (n, c, s, fm b m M) o hf := by
  intro k
  induction k with
  | zero =>
    intro j m c1 hj hW hc
    refine JV.ild (p2 := 5) rfl rfl rfl ?_
    refine JV.stk (len := 3) (sem := (s_push (.int 3000))) (p2 := 8) rfl rfl rfl ?_
    refine JV.brT rfl rfl (by exact nI_le (a := 3000) (b := j) (by omega) (by omega)) ?_
    exact JV.keep [0, 1] rfl hc
  | succ k ih =>
    intro j m c1 hj hW hc
    obtain ⟨s1, hx⟩ : ∃ s1, bd_X1_passUntilAllGone_4 j m c1 = s1 := ⟨_, rfl⟩
    have hc2 : JV (Ev mtab mcode d) jcX1_passUntilAllGone (43, [(0, .ref b), (1, .int ((itr (fun jz s => bd_X1_passUntilAllGone_4 jz s.1 s.2) k (j + 1) s1).2))], []) (n, c, s, fm b ((itr (fun jz s => bd_X1_passUntilAllGone_4 jz s.1 s.2) k (j + 1) s1).1) M) o hf := by
      subst hx
      exact hc
    clear hc
    have iv := fb_X1_passUntilAllGone_4 (B := B) (m0 := m0) hB (j := j) (m := m) (c1 := c1) (by omega) hW
    rw [hx] at iv
    unfold bd_X1_passUntilAllGone_4 at hx
    refine JV.ild (p2 := 5) rfl rfl rfl ?_
    refine JV.stk (len := 3) (sem := (s_push (.int 3000))) (p2 := 8) rfl rfl rfl ?_
    refine JV.brF (p2 := 11) rfl rfl rfl (by exact nI_ge (a := j) (b := 3000) (by omega) (by omega)) ?_
    refine JV.ild (p2 := 12) rfl rfl rfl ?_
    refine JV.stk (len := 3) (sem := (s_push (.int 3000))) (p2 := 15) rfl rfl rfl ?_
    by_cases h15 : c1 < 3000
    · rw [if_pos h15] at hx
      refine JV.brF (p2 := 18) rfl rfl rfl (Int32.not_le.mpr h15) ?_
      refine JV.ald (p2 := 19) rfl rfl rfl ?_
      refine JV.invI (p2 := 22) rfl rfl rfl fm_F (Nat.le_of_ble_eq_true rfl) rfl (ev_X1_areAllGone (by omega) hW.1 rfl) ?_
      by_cases h22 : (x_X1_areAllGone m) = true
      · rw [if_pos h22] at hx
        refine JV.brT rfl rfl (bI_t h22) ?_
        subst hx
        have fx : ∀ jz, (fun jz s => bd_X1_passUntilAllGone_4 jz s.1 s.2) jz (m, c1) = (m, c1) := fun jz => by
          show bd_X1_passUntilAllGone_4 jz m c1 = _
          unfold bd_X1_passUntilAllGone_4
          rw [if_pos h15, if_pos h22]
        rw [itr_fix (f := (fun jz s => bd_X1_passUntilAllGone_4 jz s.1 s.2)) (s := (m, c1)) fx] at hc2
        exact JV.keep [0, 1] rfl hc2
      · rw [if_neg h22] at hx
        refine JV.brF (p2 := 25) rfl rfl rfl (fun e => e (bI_f h22)) ?_
        refine JV.ild (p2 := 26) rfl rfl rfl ?_
        refine JV.ald (p2 := 27) rfl rfl rfl ?_
        refine JV.stk (len := 3) (sem := (s_push (.int 3000))) (p2 := 30) rfl rfl rfl ?_
        refine JV.ild (p2 := 31) rfl rfl rfl ?_
        refine JV.stk (len := 1) (sem := s_isub) (p2 := 32) rfl rfl rfl ?_
        refine JV.invI (p2 := 35) rfl rfl rfl fm_F (Nat.le_of_ble_eq_true rfl) rfl (ev_X1_passSome (by omega) hW (by omega) rfl) ?_
        refine JV.stk (len := 1) (sem := s_iadd) (p2 := 36) rfl rfl rfl ?_
        refine JV.ist (p2 := 37) rfl rfl rfl ?_
        refine JV.iinc (p2 := 40) rfl rfl (nI_1 _) rfl rfl ?_
        refine JV.goto rfl ?_
        subst hx
        exact ih (j + 1) _ _ (by omega) iv hc2
    · rw [if_neg h15] at hx
      refine JV.brT rfl rfl (Int32.not_lt.mp h15) ?_
      subst hx
      have fx : ∀ jz, (fun jz s => bd_X1_passUntilAllGone_4 jz s.1 s.2) jz (m, c1) = (m, c1) := fun jz => by
        show bd_X1_passUntilAllGone_4 jz m c1 = _
        unfold bd_X1_passUntilAllGone_4
        rw [if_neg h15]
      rw [itr_fix (f := (fun jz s => bd_X1_passUntilAllGone_4 jz s.1 s.2)) (s := (m, c1)) fx] at hc2
      exact JV.keep [0, 1] rfl hc2
theorem lq_X1_passUntilAllGone_4 {d n c s b : Nat} {M : JM} {o : JO} {hf : JH} {B : Nat} {m0 : Mem} {m : Mem} {c1 : Int32} (hd : 4 ≤ d) (hB : B + 117000 < 2147483648) (hW : FW (B + 39 * 0) m0 m) (hc : JV (Ev mtab mcode d) jcX1_passUntilAllGone (43, [(0, .ref b), (1, .int ((lf_X1_passUntilAllGone_4 3000 m c1).2))], []) (n, c, s, fm b ((lf_X1_passUntilAllGone_4 3000 m c1).1) M) o hf) : JV (Ev mtab mcode d) jcX1_passUntilAllGone (4, [(0, .ref b), (1, .int c1), (2, .int 0)], []) (n, c, s, fm b m M) o hf := by
  rw [lf_X1_passUntilAllGone_4_eq] at hc
  unfold ly_X1_passUntilAllGone_4 at hc
  exact lp_X1_passUntilAllGone_4 (B := B) (m0 := m0) hd hB 3000 0 m c1 (by omega) hW hc
noncomputable def y_X1_passUntilAllGone (m : Mem) : Mem × Int32 := (if (x_X1_areAllGone ((lf_X1_passUntilAllGone_4 3000 m 0).1)) = true then (((lf_X1_passUntilAllGone_4 3000 m 0).1), ((lf_X1_passUntilAllGone_4 3000 m 0).2)) else (((lf_X1_passUntilAllGone_4 3000 m 0).1), (-1)))
theorem xe_X1_passUntilAllGone : ∃ f, f = y_X1_passUntilAllGone := ⟨y_X1_passUntilAllGone, rfl⟩
noncomputable def x_X1_passUntilAllGone := Classical.choose xe_X1_passUntilAllGone
theorem x_X1_passUntilAllGone_eq : x_X1_passUntilAllGone = y_X1_passUntilAllGone := Classical.choose_spec xe_X1_passUntilAllGone
theorem ev_X1_passUntilAllGone {d n c s b : Nat} {m : Mem} {M : JM} {B : Nat} {m0 : Mem} {res : Mem × Int32} (hd : 5 ≤ d) (hW : FW B m0 m) (hB : B + 117000 < 2147483648) (hx : x_X1_passUntilAllGone m = res) : Ev mtab mcode d 31 [.ref b] (n, c, s, fm b m M) (.inl (some (.int res.2))) (n, c, s, fm b res.1 M) := by
  obtain ⟨d, rfl⟩ : ∃ e, d = e + 1 := ⟨d - 1, by omega⟩
  rw [x_X1_passUntilAllGone_eq] at hx
  unfold y_X1_passUntilAllGone at hx
  refine jv_mk (m := mX1_passUntilAllGone) (cd := jcX1_passUntilAllGone) rfl rfl (Nat.le_of_ble_eq_true rfl) trivial ?_
  refine JV.stk (len := 1) (sem := (s_push (.int 0))) (p2 := 1) rfl rfl rfl ?_
  refine JV.ist (p2 := 2) rfl rfl rfl ?_
  refine JV.stk (len := 1) (sem := (s_push (.int 0))) (p2 := 3) rfl rfl rfl ?_
  refine JV.ist (p2 := 4) rfl rfl rfl ?_
  refine lq_X1_passUntilAllGone_4 (m := m) (c1 := 0) (B := B) (m0 := m0) (by omega) (by omega) (FW.mono hW (by omega)) ?_
  refine JV.ald (p2 := 44) rfl rfl rfl ?_
  refine JV.invI (p2 := 47) rfl rfl rfl fm_F (Nat.le_of_ble_eq_true rfl) rfl (ev_X1_areAllGone (by omega) (FW.mono (fl_X1_passUntilAllGone_4 (m := m) (c1 := 0) (B := B) (m0 := m0) (by omega) (N := 3000) rfl (FW.mono hW (by omega))) (B' := B + 117000) (by omega)).1 rfl) ?_
  by_cases h47 : (x_X1_areAllGone ((lf_X1_passUntilAllGone_4 3000 m 0).1)) = true
  · rw [if_pos h47] at hx
    refine JV.brF (p2 := 50) rfl rfl rfl (bI_t h47) ?_
    refine JV.ild (p2 := 51) rfl rfl rfl ?_
    refine JV.goto rfl ?_
    subst hx
    exact JV.ret rfl (fun _ => rfl) rfl rfl
  · rw [if_neg h47] at hx
    refine JV.brT rfl rfl (bI_f h47) ?_
    refine JV.stk (len := 1) (sem := (s_push (.int (-1)))) (p2 := 55) rfl rfl rfl ?_
    subst hx
    exact JV.ret rfl (fun _ => rfl) rfl rfl
theorem fw_X1_passUntilAllGone {m : Mem} {B : Nat} {m0 : Mem} (hW : FW B m0 m) (hB : B + 117000 < 2147483648) : FW (B + 117000) m0 (x_X1_passUntilAllGone m).1 := by
  rw [x_X1_passUntilAllGone_eq]
  unfold y_X1_passUntilAllGone
  by_cases h47 : (x_X1_areAllGone ((lf_X1_passUntilAllGone_4 3000 m 0).1)) = true
  · rw [if_pos h47]
    try dsimp only
    exact FW.mono (FW.mono (fl_X1_passUntilAllGone_4 (m := m) (c1 := 0) (B := B) (m0 := m0) (by omega) (N := 3000) rfl (FW.mono hW (by omega))) (B' := B + 117000) (by omega)) (by omega)
  · rw [if_neg h47]
    try dsimp only
    exact FW.mono (FW.mono (fl_X1_passUntilAllGone_4 (m := m) (c1 := 0) (B := B) (m0 := m0) (by omega) (N := 3000) rfl (FW.mono hW (by omega))) (B' := B + 117000) (by omega)) (by omega)
