/-! the model: its object b, its rows b + 1 to b + 6 -/
def cM (b : Nat) (g : Nat → Int32) : JC := .inr (7, [.ref (b + 1), .ref (b + 2), .ref (b + 3), .int (g 0), .int (g 1), .ref (b + 4), .ref (b + 5), .int (g 2), .int (g 3), .ref (b + 6), .int (g 4), .int (g 5)])
def cZ (n : Nat) (g : Nat → Int32) : JC := .inl (1, n, .inl g)
def layM : Lay := (7, fun b r g => if r = 0 then cM b g else if r = 1 then cI 245 g else if r = 2 then cI 980 g else if r = 3 then cI 245 g else if r = 4 then cZ 12 g else if r = 5 then cI 90 g else cI 60 g, fun r => (r, 0))
abbrev mm (b : Nat) (m : Mem) (M : JM) : JM := um layM b m M
theorem layM_i {r : Nat} (h : r < 7) : ∀ r', r' < layM.1 → r' ≠ r → ¬ ((layM.2.2 r').1 = (layM.2.2 r).1 ∧ (layM.2.2 r').2 = (layM.2.2 r).2) := fun r' _ hn q => hn q.1
section MMS
variable {b i k : Nat} {m : Mem} {M : JM} {v : Int32}
theorem mm_M : mm b m M b = cM b (m 0 0) := um_rd (L := layM) (b := b) (r := 0) (by decide)
theorem mm_1 : mm b m M (b + 1) = cI 245 (m 1 0) := um_rd (L := layM) (r := 1) (by decide)
theorem mm_2 : mm b m M (b + 2) = cI 980 (m 2 0) := um_rd (L := layM) (r := 2) (by decide)
theorem mm_3 : mm b m M (b + 3) = cI 245 (m 3 0) := um_rd (L := layM) (r := 3) (by decide)
theorem mm_4 : mm b m M (b + 4) = cZ 12 (m 4 0) := um_rd (L := layM) (r := 4) (by decide)
theorem mm_5 : mm b m M (b + 5) = cI 90 (m 5 0) := um_rd (L := layM) (r := 5) (by decide)
theorem mm_6 : mm b m M (b + 6) = cI 60 (m 6 0) := um_rd (L := layM) (r := 6) (by decide)
theorem mm_wM {C : JC} (hC : C = cM b (upd (m 0 0) k v)) : va_up (mm b m M) b C = mm b (up3 m 0 0 k v) M := um_wr (L := layM) (b := b) (r := 0) (by decide) (layM_i (by decide)) hC
theorem mm_w1 {C : JC} (hC : C = cI 245 (upd (m 1 0) k v)) : va_up (mm b m M) (b + 1) C = mm b (up3 m 1 0 k v) M := um_wr (L := layM) (b := b) (r := 1) (by decide) (layM_i (by decide)) hC
theorem mm_w2 {C : JC} (hC : C = cI 980 (upd (m 2 0) k v)) : va_up (mm b m M) (b + 2) C = mm b (up3 m 2 0 k v) M := um_wr (L := layM) (b := b) (r := 2) (by decide) (layM_i (by decide)) hC
theorem mm_w3 {C : JC} (hC : C = cI 245 (upd (m 3 0) k v)) : va_up (mm b m M) (b + 3) C = mm b (up3 m 3 0 k v) M := um_wr (L := layM) (b := b) (r := 3) (by decide) (layM_i (by decide)) hC
theorem mm_w4 {C : JC} (hC : C = cZ 12 (upd (m 4 0) k v)) : va_up (mm b m M) (b + 4) C = mm b (up3 m 4 0 k v) M := um_wr (L := layM) (b := b) (r := 4) (by decide) (layM_i (by decide)) hC
theorem mm_w5 {C : JC} (hC : C = cI 90 (upd (m 5 0) k v)) : va_up (mm b m M) (b + 5) C = mm b (up3 m 5 0 k v) M := um_wr (L := layM) (b := b) (r := 5) (by decide) (layM_i (by decide)) hC
theorem mm_w6 {C : JC} (hC : C = cI 60 (upd (m 6 0) k v)) : va_up (mm b m M) (b + 6) C = mm b (up3 m 6 0 k v) M := um_wr (L := layM) (b := b) (r := 6) (by decide) (layM_i (by decide)) hC
end MMS
theorem lc_ltT {x y : Int64} (h : x < y) : lg_cmp x y < 0 := (lg_cmp_lt x y).mpr h
theorem lc_ltF {x y : Int64} (h : ¬ x < y) : ¬ lg_cmp x y < 0 := fun q => h ((lg_cmp_lt x y).mp q)
theorem lc_gtT {x y : Int64} (h : y < x) : 0 < lg_cmp x y := (lg_cmp_gt x y).mpr h
theorem lc_gtF {x y : Int64} (h : ¬ y < x) : ¬ 0 < lg_cmp x y := fun q => h ((lg_cmp_gt x y).mp q)
theorem nI_addE {x y : Int32} {a b : Nat} (hx : x = nI a) (hy : y = nI b) : x + y = nI (a + b) := by rw [hx, hy, nI_add]
theorem nI_mulE {x y : Int32} {a b : Nat} (hx : x = nI a) (hy : y = nI b) : x * y = nI (a * b) := by rw [hx, hy, pk_mul]
theorem nI_subE {x y : Int32} {a b : Nat} (hx : x = nI a) (hy : y = nI b) (h : b ≤ a) : x - y = nI (a - b) := by rw [hx, hy, pk_sub h]
theorem nI_dec {a j : Nat} (h : j + 1 ≤ a) : nI (a - j) + (-1) = nI (a - (j + 1)) := by
  rw [show a - j = a - (j + 1) + 1 by omega]
  exact pk_m1 _
def MK (m : Mem) : Prop := VN 6 (m 1 0 0) ∧ VN 3 (m 1 0 1) ∧ VN 12 (m 1 0 2) ∧ VN 30 (m 1 0 7) ∧ VX 12 (m 1 0 21) ∧ VX 12 (m 1 0 26) ∧ VX 12 (m 1 0 31)
theorem MK.ns {m : Mem} (h : MK m) : VN 6 (m 1 0 0) := h.1
theorem MK.nt {m : Mem} (h : MK m) : VN 3 (m 1 0 1) := h.2.1
theorem MK.na {m : Mem} (h : MK m) : VN 12 (m 1 0 2) := h.2.2.1
theorem MK.ev {m : Mem} (h : MK m) : VN 30 (m 1 0 7) := h.2.2.2.1
theorem MK.tu {m : Mem} (h : MK m) {j : Nat} (hj : j < 3) : VX 12 (m 1 0 (20 + 5 * j + 1)) := by
  match j, hj with
  | 0, _ => exact h.2.2.2.2.1
  | 1, _ => exact h.2.2.2.2.2.1
  | 2, _ => exact h.2.2.2.2.2.2
noncomputable def y_X7_in (p1 : Int64) (p2 : Int64) (p3 : Int64) : Bool := (if p1 < p2 then false else (if p3 < p1 then false else true))
theorem xe_X7_in : ∃ f, f = y_X7_in := ⟨y_X7_in, rfl⟩
noncomputable def x_X7_in := Classical.choose xe_X7_in
theorem x_X7_in_eq : x_X7_in = y_X7_in := Classical.choose_spec xe_X7_in
theorem ev_X7_in {d n c s : Nat} {M : JM} {p1 : Int64} {p2 : Int64} {p3 : Int64} {res : Bool} (hd : 1 ≤ d)  (hx : x_X7_in p1 p2 p3 = res) : Ev mtab mcode d 91 [.long p1, .long p2, .long p3] (n, c, s, M) (.inl (some (.int (bI res)))) (n, c, s, M) := by
  obtain ⟨d, rfl⟩ : ∃ e, d = e + 1 := ⟨d - 1, by omega⟩
  rw [x_X7_in_eq] at hx
  unfold y_X7_in at hx
  refine jv_mk (m := mX7_in) (cd := jcX7_in) rfl rfl (Nat.le_of_ble_eq_true rfl) (bI_or _) ?_
  refine JV.lld (p2 := 1) rfl rfl rfl ?_
  refine JV.lld (p2 := 2) rfl rfl rfl ?_
  refine JV.stk (len := 1) (sem := s_lcmp) (p2 := 3) rfl rfl rfl ?_
  by_cases h3 : p1 < p2
  · rw [if_pos h3] at hx
    refine JV.brT rfl rfl (lc_ltT h3) ?_
    refine JV.stk (len := 1) (sem := (s_push (.int 0))) (p2 := 18) rfl rfl rfl ?_
    subst hx
    exact JV.ret rfl (fun _ => rfl) rfl rfl
  · rw [if_neg h3] at hx
    refine JV.brF (p2 := 6) rfl rfl rfl (lc_ltF h3) ?_
    refine JV.lld (p2 := 7) rfl rfl rfl ?_
    refine JV.lld (p2 := 9) rfl rfl rfl ?_
    refine JV.stk (len := 1) (sem := s_lcmp) (p2 := 10) rfl rfl rfl ?_
    by_cases h10 : p3 < p1
    · rw [if_pos h10] at hx
      refine JV.brT rfl rfl (lc_gtT h10) ?_
      refine JV.stk (len := 1) (sem := (s_push (.int 0))) (p2 := 18) rfl rfl rfl ?_
      subst hx
      exact JV.ret rfl (fun _ => rfl) rfl rfl
    · rw [if_neg h10] at hx
      refine JV.brF (p2 := 13) rfl rfl rfl (lc_gtF h10) ?_
      refine JV.stk (len := 1) (sem := (s_push (.int 1))) (p2 := 14) rfl rfl rfl ?_
      refine JV.goto rfl ?_
      subst hx
      exact JV.ret rfl (fun _ => rfl) rfl rfl
noncomputable def y_X7_standAt (p1 : Int32) (p2 : Int32) : Int32 := ((8 + (2 * p1)) + p2)
theorem xe_X7_standAt : ∃ f, f = y_X7_standAt := ⟨y_X7_standAt, rfl⟩
noncomputable def x_X7_standAt := Classical.choose xe_X7_standAt
theorem x_X7_standAt_eq : x_X7_standAt = y_X7_standAt := Classical.choose_spec xe_X7_standAt
theorem ev_X7_standAt {d n c s : Nat} {M : JM} {p1 : Int32} {p2 : Int32} {res : Int32} (hd : 1 ≤ d)  (hx : x_X7_standAt p1 p2 = res) : Ev mtab mcode d 97 [.int p1, .int p2] (n, c, s, M) (.inl (some (.int res))) (n, c, s, M) := by
  obtain ⟨d, rfl⟩ : ∃ e, d = e + 1 := ⟨d - 1, by omega⟩
  rw [x_X7_standAt_eq] at hx
  unfold y_X7_standAt at hx
  refine jv_mk (m := mX7_standAt) (cd := jcX7_standAt) rfl rfl (Nat.le_of_ble_eq_true rfl) trivial ?_
  refine JV.stk (len := 2) (sem := (s_push (.int 8))) (p2 := 2) rfl rfl rfl ?_
  refine JV.stk (len := 1) (sem := (s_push (.int 2))) (p2 := 3) rfl rfl rfl ?_
  refine JV.ild (p2 := 4) rfl rfl rfl ?_
  refine JV.stk (len := 1) (sem := s_imul) (p2 := 5) rfl rfl rfl ?_
  refine JV.stk (len := 1) (sem := s_iadd) (p2 := 6) rfl rfl rfl ?_
  refine JV.ild (p2 := 7) rfl rfl rfl ?_
  refine JV.stk (len := 1) (sem := s_iadd) (p2 := 8) rfl rfl rfl ?_
  subst hx
  exact JV.ret rfl (fun _ => rfl) rfl rfl
theorem sa_at {x y : Int32} {q w : Nat} (hx : x = nI q) (hy : y = nI w) : x_X7_standAt x y = nI (8 + 2 * q + w) := by
  rw [x_X7_standAt_eq]
  unfold y_X7_standAt
  exact nI_addE (nI_addE (rfl : (8 : Int32) = nI 8) (nI_mulE (rfl : (2 : Int32) = nI 2) hx)) hy
noncomputable def y_X7_tugAt (p1 : Int32) (p2 : Int32) : Int32 := ((20 + (5 * p1)) + p2)
theorem xe_X7_tugAt : ∃ f, f = y_X7_tugAt := ⟨y_X7_tugAt, rfl⟩
noncomputable def x_X7_tugAt := Classical.choose xe_X7_tugAt
theorem x_X7_tugAt_eq : x_X7_tugAt = y_X7_tugAt := Classical.choose_spec xe_X7_tugAt
theorem ev_X7_tugAt {d n c s : Nat} {M : JM} {p1 : Int32} {p2 : Int32} {res : Int32} (hd : 1 ≤ d)  (hx : x_X7_tugAt p1 p2 = res) : Ev mtab mcode d 98 [.int p1, .int p2] (n, c, s, M) (.inl (some (.int res))) (n, c, s, M) := by
  obtain ⟨d, rfl⟩ : ∃ e, d = e + 1 := ⟨d - 1, by omega⟩
  rw [x_X7_tugAt_eq] at hx
  unfold y_X7_tugAt at hx
  refine jv_mk (m := mX7_tugAt) (cd := jcX7_tugAt) rfl rfl (Nat.le_of_ble_eq_true rfl) trivial ?_
  refine JV.stk (len := 2) (sem := (s_push (.int 20))) (p2 := 2) rfl rfl rfl ?_
  refine JV.stk (len := 1) (sem := (s_push (.int 5))) (p2 := 3) rfl rfl rfl ?_
  refine JV.ild (p2 := 4) rfl rfl rfl ?_
  refine JV.stk (len := 1) (sem := s_imul) (p2 := 5) rfl rfl rfl ?_
  refine JV.stk (len := 1) (sem := s_iadd) (p2 := 6) rfl rfl rfl ?_
  refine JV.ild (p2 := 7) rfl rfl rfl ?_
  refine JV.stk (len := 1) (sem := s_iadd) (p2 := 8) rfl rfl rfl ?_
  subst hx
  exact JV.ret rfl (fun _ => rfl) rfl rfl
theorem ta_at {x y : Int32} {q w : Nat} (hx : x = nI q) (hy : y = nI w) : x_X7_tugAt x y = nI (20 + 5 * q + w) := by
  rw [x_X7_tugAt_eq]
  unfold y_X7_tugAt
  exact nI_addE (nI_addE (rfl : (20 : Int32) = nI 20) (nI_mulE (rfl : (5 : Int32) = nI 5) hx)) hy
noncomputable def y_X7_planeAt (p1 : Int32) (p2 : Int32) : Int32 := ((35 + (10 * p1)) + p2)
theorem xe_X7_planeAt : ∃ f, f = y_X7_planeAt := ⟨y_X7_planeAt, rfl⟩
noncomputable def x_X7_planeAt := Classical.choose xe_X7_planeAt
theorem x_X7_planeAt_eq : x_X7_planeAt = y_X7_planeAt := Classical.choose_spec xe_X7_planeAt
theorem ev_X7_planeAt {d n c s : Nat} {M : JM} {p1 : Int32} {p2 : Int32} {res : Int32} (hd : 1 ≤ d)  (hx : x_X7_planeAt p1 p2 = res) : Ev mtab mcode d 99 [.int p1, .int p2] (n, c, s, M) (.inl (some (.int res))) (n, c, s, M) := by
  obtain ⟨d, rfl⟩ : ∃ e, d = e + 1 := ⟨d - 1, by omega⟩
  rw [x_X7_planeAt_eq] at hx
  unfold y_X7_planeAt at hx
  refine jv_mk (m := mX7_planeAt) (cd := jcX7_planeAt) rfl rfl (Nat.le_of_ble_eq_true rfl) trivial ?_
  refine JV.stk (len := 2) (sem := (s_push (.int 35))) (p2 := 2) rfl rfl rfl ?_
  refine JV.stk (len := 2) (sem := (s_push (.int 10))) (p2 := 4) rfl rfl rfl ?_
  refine JV.ild (p2 := 5) rfl rfl rfl ?_
  refine JV.stk (len := 1) (sem := s_imul) (p2 := 6) rfl rfl rfl ?_
  refine JV.stk (len := 1) (sem := s_iadd) (p2 := 7) rfl rfl rfl ?_
  refine JV.ild (p2 := 8) rfl rfl rfl ?_
  refine JV.stk (len := 1) (sem := s_iadd) (p2 := 9) rfl rfl rfl ?_
  subst hx
  exact JV.ret rfl (fun _ => rfl) rfl rfl
theorem pa_at {x y : Int32} {q w : Nat} (hx : x = nI q) (hy : y = nI w) : x_X7_planeAt x y = nI (35 + 10 * q + w) := by
  rw [x_X7_planeAt_eq]
  unfold y_X7_planeAt
  exact nI_addE (nI_addE (rfl : (35 : Int32) = nI 35) (nI_mulE (rfl : (10 : Int32) = nI 10) hx)) hy
noncomputable def y_X7_of (m : Mem) (q : Nat) (w : Nat) : Int32 := (m 1 0 (35 + 10 * q + w))
theorem xe_X7_of : ∃ f, f = y_X7_of := ⟨y_X7_of, rfl⟩
noncomputable def x_X7_of := Classical.choose xe_X7_of
theorem x_X7_of_eq : x_X7_of = y_X7_of := Classical.choose_spec xe_X7_of
theorem ev_X7_of {d n c s b : Nat} {m : Mem} {M : JM} {q : Nat} {v_q : Int32} {w : Nat} {v_w : Int32} {res : Int32} (hd : 2 ≤ d) (e_q : v_q = nI q) (e_w : v_w = nI w) (hq : q < 12) (hw : w < 10) (hx : x_X7_of m q w = res) : Ev mtab mcode d 100 [.ref b, .int v_q, .int v_w] (n, c, s, mm b m M) (.inl (some (.int res))) (n, c, s, mm b m M) := by
  obtain ⟨d, rfl⟩ : ∃ e, d = e + 1 := ⟨d - 1, by omega⟩
  subst e_q
  subst e_w
  rw [x_X7_of_eq] at hx
  unfold y_X7_of at hx
  refine jv_mk (m := mX7_of) (cd := jcX7_of) rfl rfl (Nat.le_of_ble_eq_true rfl) trivial ?_
  refine JV.ald (p2 := 1) rfl rfl rfl ?_
  refine JV.getf (p2 := 4) rfl mm_M rfl rfl ?_
  refine JV.ild (p2 := 5) rfl rfl rfl ?_
  refine JV.ild (p2 := 6) rfl rfl rfl ?_
  refine JV.insI (p2 := 9) rfl (Nat.le_of_ble_eq_true rfl) rfl rfl (Nat.le_of_ble_eq_true rfl) rfl (ev_X7_planeAt (by omega) rfl) rfl ?_
  refine JV.iald (p2 := 10) (j := (35 + 10 * q + w)) rfl mm_1 (pa_at rfl rfl) (by omega) (by decide) rfl ?_
  subst hx
  exact JV.ret rfl (fun _ => rfl) rfl rfl
noncomputable def y_X7_thrown (m : Mem) : Int32 := (m 0 0 1)
theorem xe_X7_thrown : ∃ f, f = y_X7_thrown := ⟨y_X7_thrown, rfl⟩
noncomputable def x_X7_thrown := Classical.choose xe_X7_thrown
theorem x_X7_thrown_eq : x_X7_thrown = y_X7_thrown := Classical.choose_spec xe_X7_thrown
theorem ev_X7_thrown {d n c s b : Nat} {m : Mem} {M : JM}  {res : Int32} (hd : 1 ≤ d)  (hx : x_X7_thrown m = res) : Ev mtab mcode d 90 [.ref b] (n, c, s, mm b m M) (.inl (some (.int res))) (n, c, s, mm b m M) := by
  obtain ⟨d, rfl⟩ : ∃ e, d = e + 1 := ⟨d - 1, by omega⟩
  rw [x_X7_thrown_eq] at hx
  unfold y_X7_thrown at hx
  refine jv_mk (m := mX7_thrown) (cd := jcX7_thrown) rfl rfl (Nat.le_of_ble_eq_true rfl) trivial ?_
  refine JV.ald (p2 := 1) rfl rfl rfl ?_
  refine JV.getf (p2 := 4) rfl mm_M rfl rfl ?_
  subst hx
  exact JV.ret rfl (fun _ => rfl) rfl rfl
noncomputable def y_X7_fine (m : Mem) (p1 : Int32) : Mem × Int32 := ((up3 m 0 0 1 0), p1)
theorem xe_X7_fine : ∃ f, f = y_X7_fine := ⟨y_X7_fine, rfl⟩
noncomputable def x_X7_fine := Classical.choose xe_X7_fine
theorem x_X7_fine_eq : x_X7_fine = y_X7_fine := Classical.choose_spec xe_X7_fine
theorem ev_X7_fine {d n c s b : Nat} {m : Mem} {M : JM} {p1 : Int32} {res : Mem × Int32} (hd : 1 ≤ d)  (hx : x_X7_fine m p1 = res) : Ev mtab mcode d 92 [.ref b, .int p1] (n, c, s, mm b m M) (.inl (some (.int res.2))) (n, c, s, mm b res.1 M) := by
  obtain ⟨d, rfl⟩ : ∃ e, d = e + 1 := ⟨d - 1, by omega⟩
  rw [x_X7_fine_eq] at hx
  unfold y_X7_fine at hx
  refine jv_mk (m := mX7_fine) (cd := jcX7_fine) rfl rfl (Nat.le_of_ble_eq_true rfl) trivial ?_
  refine JV.ald (p2 := 1) rfl rfl rfl ?_
  refine JV.stk (len := 1) (sem := (s_push (.int 0))) (p2 := 2) rfl rfl rfl ?_
  refine JV.puti (p2 := 5) rfl mm_M (Nat.le_of_ble_eq_true rfl) (mm_wM (k := 1) rfl) rfl ?_
  refine JV.ild (p2 := 6) rfl rfl rfl ?_
  subst hx
  exact JV.ret rfl (fun _ => rfl) rfl rfl
noncomputable def y_X7_throwing (m : Mem) (p1 : Int32) : Mem × Int32 := ((up3 m 0 0 1 p1), 0)
theorem xe_X7_throwing : ∃ f, f = y_X7_throwing := ⟨y_X7_throwing, rfl⟩
noncomputable def x_X7_throwing := Classical.choose xe_X7_throwing
theorem x_X7_throwing_eq : x_X7_throwing = y_X7_throwing := Classical.choose_spec xe_X7_throwing
theorem ev_X7_throwing {d n c s b : Nat} {m : Mem} {M : JM} {p1 : Int32} {res : Mem × Int32} (hd : 1 ≤ d)  (hx : x_X7_throwing m p1 = res) : Ev mtab mcode d 93 [.ref b, .int p1] (n, c, s, mm b m M) (.inl (some (.int res.2))) (n, c, s, mm b res.1 M) := by
  obtain ⟨d, rfl⟩ : ∃ e, d = e + 1 := ⟨d - 1, by omega⟩
  rw [x_X7_throwing_eq] at hx
  unfold y_X7_throwing at hx
  refine jv_mk (m := mX7_throwing) (cd := jcX7_throwing) rfl rfl (Nat.le_of_ble_eq_true rfl) trivial ?_
  refine JV.ald (p2 := 1) rfl rfl rfl ?_
  refine JV.ild (p2 := 2) rfl rfl rfl ?_
  refine JV.puti (p2 := 5) rfl mm_M (Nat.le_of_ble_eq_true rfl) (mm_wM (k := 1) rfl) rfl ?_
  refine JV.stk (len := 1) (sem := (s_push (.int 0))) (p2 := 6) rfl rfl rfl ?_
  subst hx
  exact JV.ret rfl (fun _ => rfl) rfl rfl
noncomputable def y_X7_isStand (m : Mem) (p1 : Int32) : Bool := (x_X7_in ((p1).toInt64) 0 (((m 1 0 0)).toInt64 - 1))
theorem xe_X7_isStand : ∃ f, f = y_X7_isStand := ⟨y_X7_isStand, rfl⟩
noncomputable def x_X7_isStand := Classical.choose xe_X7_isStand
theorem x_X7_isStand_eq : x_X7_isStand = y_X7_isStand := Classical.choose_spec xe_X7_isStand
theorem ev_X7_isStand {d n c s b : Nat} {m : Mem} {M : JM} {p1 : Int32} {res : Bool} (hd : 2 ≤ d)  (hx : x_X7_isStand m p1 = res) : Ev mtab mcode d 104 [.ref b, .int p1] (n, c, s, mm b m M) (.inl (some (.int (bI res)))) (n, c, s, mm b m M) := by
  obtain ⟨d, rfl⟩ : ∃ e, d = e + 1 := ⟨d - 1, by omega⟩
  rw [x_X7_isStand_eq] at hx
  unfold y_X7_isStand at hx
  refine jv_mk (m := mX7_isStand) (cd := jcX7_isStand) rfl rfl (Nat.le_of_ble_eq_true rfl) (bI_or _) ?_
  refine JV.ild (p2 := 1) rfl rfl rfl ?_
  refine JV.stk (len := 1) (sem := s_i2l) (p2 := 2) rfl rfl rfl ?_
  refine JV.stk (len := 1) (sem := (s_push (.long 0))) (p2 := 3) rfl rfl rfl ?_
  refine JV.ald (p2 := 4) rfl rfl rfl ?_
  refine JV.getf (p2 := 7) rfl mm_M rfl rfl ?_
  refine JV.stk (len := 1) (sem := (s_push (.int 0))) (p2 := 8) rfl rfl rfl ?_
  refine JV.iald (p2 := 9) (j := 0) rfl mm_1 rfl (by omega) (by decide) rfl ?_
  refine JV.stk (len := 1) (sem := s_i2l) (p2 := 10) rfl rfl rfl ?_
  refine JV.stk (len := 1) (sem := (s_push (.long 1))) (p2 := 11) rfl rfl rfl ?_
  refine JV.stk (len := 1) (sem := s_lsub) (p2 := 12) rfl rfl rfl ?_
  refine JV.insI (p2 := 15) rfl (Nat.le_of_ble_eq_true rfl) rfl rfl (Nat.le_of_ble_eq_true rfl) rfl (ev_X7_in (by omega) rfl) rfl ?_
  subst hx
  exact JV.ret rfl (fun _ => rfl) rfl rfl
noncomputable def y_X7_isTug (m : Mem) (p1 : Int32) : Bool := (x_X7_in ((p1).toInt64) 0 (((m 1 0 1)).toInt64 - 1))
theorem xe_X7_isTug : ∃ f, f = y_X7_isTug := ⟨y_X7_isTug, rfl⟩
noncomputable def x_X7_isTug := Classical.choose xe_X7_isTug
theorem x_X7_isTug_eq : x_X7_isTug = y_X7_isTug := Classical.choose_spec xe_X7_isTug
theorem ev_X7_isTug {d n c s b : Nat} {m : Mem} {M : JM} {p1 : Int32} {res : Bool} (hd : 2 ≤ d)  (hx : x_X7_isTug m p1 = res) : Ev mtab mcode d 105 [.ref b, .int p1] (n, c, s, mm b m M) (.inl (some (.int (bI res)))) (n, c, s, mm b m M) := by
  obtain ⟨d, rfl⟩ : ∃ e, d = e + 1 := ⟨d - 1, by omega⟩
  rw [x_X7_isTug_eq] at hx
  unfold y_X7_isTug at hx
  refine jv_mk (m := mX7_isTug) (cd := jcX7_isTug) rfl rfl (Nat.le_of_ble_eq_true rfl) (bI_or _) ?_
  refine JV.ild (p2 := 1) rfl rfl rfl ?_
  refine JV.stk (len := 1) (sem := s_i2l) (p2 := 2) rfl rfl rfl ?_
  refine JV.stk (len := 1) (sem := (s_push (.long 0))) (p2 := 3) rfl rfl rfl ?_
  refine JV.ald (p2 := 4) rfl rfl rfl ?_
  refine JV.getf (p2 := 7) rfl mm_M rfl rfl ?_
  refine JV.stk (len := 1) (sem := (s_push (.int 1))) (p2 := 8) rfl rfl rfl ?_
  refine JV.iald (p2 := 9) (j := 1) rfl mm_1 rfl (by omega) (by decide) rfl ?_
  refine JV.stk (len := 1) (sem := s_i2l) (p2 := 10) rfl rfl rfl ?_
  refine JV.stk (len := 1) (sem := (s_push (.long 1))) (p2 := 11) rfl rfl rfl ?_
  refine JV.stk (len := 1) (sem := s_lsub) (p2 := 12) rfl rfl rfl ?_
  refine JV.insI (p2 := 15) rfl (Nat.le_of_ble_eq_true rfl) rfl rfl (Nat.le_of_ble_eq_true rfl) rfl (ev_X7_in (by omega) rfl) rfl ?_
  subst hx
  exact JV.ret rfl (fun _ => rfl) rfl rfl
noncomputable def y_X7_isPlane (m : Mem) (p1 : Int32) : Bool := (x_X7_in ((p1).toInt64) 0 (((m 1 0 2)).toInt64 - 1))
theorem xe_X7_isPlane : ∃ f, f = y_X7_isPlane := ⟨y_X7_isPlane, rfl⟩
noncomputable def x_X7_isPlane := Classical.choose xe_X7_isPlane
theorem x_X7_isPlane_eq : x_X7_isPlane = y_X7_isPlane := Classical.choose_spec xe_X7_isPlane
theorem ev_X7_isPlane {d n c s b : Nat} {m : Mem} {M : JM} {p1 : Int32} {res : Bool} (hd : 2 ≤ d)  (hx : x_X7_isPlane m p1 = res) : Ev mtab mcode d 106 [.ref b, .int p1] (n, c, s, mm b m M) (.inl (some (.int (bI res)))) (n, c, s, mm b m M) := by
  obtain ⟨d, rfl⟩ : ∃ e, d = e + 1 := ⟨d - 1, by omega⟩
  rw [x_X7_isPlane_eq] at hx
  unfold y_X7_isPlane at hx
  refine jv_mk (m := mX7_isPlane) (cd := jcX7_isPlane) rfl rfl (Nat.le_of_ble_eq_true rfl) (bI_or _) ?_
  refine JV.ild (p2 := 1) rfl rfl rfl ?_
  refine JV.stk (len := 1) (sem := s_i2l) (p2 := 2) rfl rfl rfl ?_
  refine JV.stk (len := 1) (sem := (s_push (.long 0))) (p2 := 3) rfl rfl rfl ?_
  refine JV.ald (p2 := 4) rfl rfl rfl ?_
  refine JV.getf (p2 := 7) rfl mm_M rfl rfl ?_
  refine JV.stk (len := 1) (sem := (s_push (.int 2))) (p2 := 8) rfl rfl rfl ?_
  refine JV.iald (p2 := 9) (j := 2) rfl mm_1 rfl (by omega) (by decide) rfl ?_
  refine JV.stk (len := 1) (sem := s_i2l) (p2 := 10) rfl rfl rfl ?_
  refine JV.stk (len := 1) (sem := (s_push (.long 1))) (p2 := 11) rfl rfl rfl ?_
  refine JV.stk (len := 1) (sem := s_lsub) (p2 := 12) rfl rfl rfl ?_
  refine JV.insI (p2 := 15) rfl (Nat.le_of_ble_eq_true rfl) rfl rfl (Nat.le_of_ble_eq_true rfl) rfl (ev_X7_in (by omega) rfl) rfl ?_
  subst hx
  exact JV.ret rfl (fun _ => rfl) rfl rfl
noncomputable def y_X7_isCurfew (m : Mem) : Bool := (x_X7_in ((((m 1 0 3) - (m 1 0 3) / 1440 * 1440)).toInt64) (((m 1 0 4)).toInt64) (((m 1 0 5)).toInt64 - 1))
theorem xe_X7_isCurfew : ∃ f, f = y_X7_isCurfew := ⟨y_X7_isCurfew, rfl⟩
noncomputable def x_X7_isCurfew := Classical.choose xe_X7_isCurfew
theorem x_X7_isCurfew_eq : x_X7_isCurfew = y_X7_isCurfew := Classical.choose_spec xe_X7_isCurfew
theorem ev_X7_isCurfew {d n c s b : Nat} {m : Mem} {M : JM}  {res : Bool} (hd : 2 ≤ d)  (hx : x_X7_isCurfew m = res) : Ev mtab mcode d 120 [.ref b] (n, c, s, mm b m M) (.inl (some (.int (bI res)))) (n, c, s, mm b m M) := by
  obtain ⟨d, rfl⟩ : ∃ e, d = e + 1 := ⟨d - 1, by omega⟩
  rw [x_X7_isCurfew_eq] at hx
  unfold y_X7_isCurfew at hx
  refine jv_mk (m := mX7_isCurfew) (cd := jcX7_isCurfew) rfl rfl (Nat.le_of_ble_eq_true rfl) (bI_or _) ?_
  refine JV.ald (p2 := 1) rfl rfl rfl ?_
  refine JV.getf (p2 := 4) rfl mm_M rfl rfl ?_
  refine JV.stk (len := 1) (sem := (s_push (.int 3))) (p2 := 5) rfl rfl rfl ?_
  refine JV.iald (p2 := 6) (j := 3) rfl mm_1 rfl (by omega) (by decide) rfl ?_
  refine JV.stk (len := 3) (sem := (s_push (.int 1440))) (p2 := 9) rfl rfl rfl ?_
  refine JV.stk (len := 1) (sem := s_irem) (p2 := 10) rfl rfl rfl ?_
  refine JV.stk (len := 1) (sem := s_i2l) (p2 := 11) rfl rfl rfl ?_
  refine JV.ald (p2 := 12) rfl rfl rfl ?_
  refine JV.getf (p2 := 15) rfl mm_M rfl rfl ?_
  refine JV.stk (len := 1) (sem := (s_push (.int 4))) (p2 := 16) rfl rfl rfl ?_
  refine JV.iald (p2 := 17) (j := 4) rfl mm_1 rfl (by omega) (by decide) rfl ?_
  refine JV.stk (len := 1) (sem := s_i2l) (p2 := 18) rfl rfl rfl ?_
  refine JV.ald (p2 := 19) rfl rfl rfl ?_
  refine JV.getf (p2 := 22) rfl mm_M rfl rfl ?_
  refine JV.stk (len := 1) (sem := (s_push (.int 5))) (p2 := 23) rfl rfl rfl ?_
  refine JV.iald (p2 := 24) (j := 5) rfl mm_1 rfl (by omega) (by decide) rfl ?_
  refine JV.stk (len := 1) (sem := s_i2l) (p2 := 25) rfl rfl rfl ?_
  refine JV.stk (len := 1) (sem := (s_push (.long 1))) (p2 := 26) rfl rfl rfl ?_
  refine JV.stk (len := 1) (sem := s_lsub) (p2 := 27) rfl rfl rfl ?_
  refine JV.insI (p2 := 30) rfl (Nat.le_of_ble_eq_true rfl) rfl rfl (Nat.le_of_ble_eq_true rfl) rfl (ev_X7_in (by omega) rfl) rfl ?_
  subst hx
  exact JV.ret rfl (fun _ => rfl) rfl rfl
noncomputable def bd_X7_inState_4 (m : Mem) (w1 : Int32) (j : Nat) (c2 : Int32) : Int32 := (if (x_X7_of m j 5) = w1 then (c2 + 1) else (c2 + 0))
noncomputable def ly_X7_inState_4 (m : Mem) (w1 : Int32) (N : Nat) (c2 : Int32) : Int32 := itr (fun jz s => bd_X7_inState_4 m w1 jz s) N 0 c2
theorem le_X7_inState_4 : ∃ f, f = ly_X7_inState_4 := ⟨ly_X7_inState_4, rfl⟩
noncomputable def lf_X7_inState_4 := Classical.choose le_X7_inState_4
theorem lf_X7_inState_4_eq : lf_X7_inState_4 = ly_X7_inState_4 := Classical.choose_spec le_X7_inState_4
theorem lp_X7_inState_4 {d n c s b : Nat} {M : JM} {o : JO} {hf : JH} {m : Mem} {w1 : Int32} {N : Nat} (hd : 2 ≤ d) (hNc : N ≤ 12) (hN : m 1 0 2 = nI N) : ∀ (k j : Nat) (c2 : Int32), j + k = N → JV (Ev mtab mcode d) jcX7_inState (38, [(0, .ref b), (1, .int w1), (2, .int (itr (fun jz s => bd_X7_inState_4 m w1 jz s) k j c2))], []) (n, c, s, mm b m M) o hf → JV (Ev mtab mcode d) jcX7_inState (4, [(0, .ref b), (1, .int w1), (2, .int c2), (3, .int (nI j))], []) (n, c, s, mm b m M) o hf := by
  intro k
  induction k with
  | zero =>
    intro j c2 hj hc
    refine JV.ild (p2 := 5) rfl rfl rfl ?_
    refine JV.ald (p2 := 6) rfl rfl rfl ?_
    refine JV.getf (p2 := 9) rfl mm_M rfl rfl ?_
    refine JV.stk (len := 1) (sem := (s_push (.int 2))) (p2 := 10) rfl rfl rfl ?_
    refine JV.iald (p2 := 11) (j := 2) rfl mm_1 rfl (by omega) (by decide) rfl ?_
    refine JV.brT rfl rfl (by rw [hN]; exact nI_le (a := N) (b := j) (by omega) (by omega)) ?_
    exact JV.keep [0, 1, 2] rfl hc
  | succ k ih =>
    intro j c2 hj hc
    obtain ⟨s1, hx⟩ : ∃ s1, bd_X7_inState_4 m w1 j c2 = s1 := ⟨_, rfl⟩
    have hc2 : JV (Ev mtab mcode d) jcX7_inState (38, [(0, .ref b), (1, .int w1), (2, .int (itr (fun jz s => bd_X7_inState_4 m w1 jz s) k (j + 1) s1))], []) (n, c, s, mm b m M) o hf := by
      subst hx
      exact hc
    clear hc
    unfold bd_X7_inState_4 at hx
    refine JV.ild (p2 := 5) rfl rfl rfl ?_
    refine JV.ald (p2 := 6) rfl rfl rfl ?_
    refine JV.getf (p2 := 9) rfl mm_M rfl rfl ?_
    refine JV.stk (len := 1) (sem := (s_push (.int 2))) (p2 := 10) rfl rfl rfl ?_
    refine JV.iald (p2 := 11) (j := 2) rfl mm_1 rfl (by omega) (by decide) rfl ?_
    refine JV.brF (p2 := 14) rfl rfl rfl (by rw [hN]; exact nI_ge (a := j) (b := N) (by omega) (by omega)) ?_
    refine JV.ild (p2 := 15) rfl rfl rfl ?_
    refine JV.ald (p2 := 16) rfl rfl rfl ?_
    refine JV.ild (p2 := 17) rfl rfl rfl ?_
    refine JV.stk (len := 1) (sem := (s_push (.int 5))) (p2 := 18) rfl rfl rfl ?_
    refine JV.invI (p2 := 21) rfl rfl rfl mm_M (Nat.le_of_ble_eq_true rfl) rfl (ev_X7_of (q := j) (w := 5) (by omega) rfl rfl (by omega) (by omega) rfl) ?_
    refine JV.ild (p2 := 22) rfl rfl rfl ?_
    by_cases h22 : (x_X7_of m j 5) = w1
    · rw [if_pos h22] at hx
      refine JV.brF (p2 := 25) rfl rfl rfl (fun e => e h22) ?_
      refine JV.stk (len := 1) (sem := (s_push (.int 1))) (p2 := 26) rfl rfl rfl ?_
      refine JV.goto rfl ?_
      refine JV.stk (len := 1) (sem := s_iadd) (p2 := 31) rfl rfl rfl ?_
      refine JV.ist (p2 := 32) rfl rfl rfl ?_
      refine JV.iinc (p2 := 35) rfl rfl (nI_1 _) rfl rfl ?_
      refine JV.goto rfl ?_
      subst hx
      exact ih (j + 1) _ (by omega) hc2
    · rw [if_neg h22] at hx
      refine JV.brT rfl rfl h22 ?_
      refine JV.stk (len := 1) (sem := (s_push (.int 0))) (p2 := 30) rfl rfl rfl ?_
      refine JV.stk (len := 1) (sem := s_iadd) (p2 := 31) rfl rfl rfl ?_
      refine JV.ist (p2 := 32) rfl rfl rfl ?_
      refine JV.iinc (p2 := 35) rfl rfl (nI_1 _) rfl rfl ?_
      refine JV.goto rfl ?_
      subst hx
      exact ih (j + 1) _ (by omega) hc2
theorem lq_X7_inState_4 {d n c s b : Nat} {M : JM} {o : JO} {hf : JH} {m : Mem} {w1 : Int32} {N : Nat} {c2 : Int32} (hd : 2 ≤ d) (hNc : N ≤ 12) (hN : m 1 0 2 = nI N)  (hc : JV (Ev mtab mcode d) jcX7_inState (38, [(0, .ref b), (1, .int w1), (2, .int (lf_X7_inState_4 m w1 N c2))], []) (n, c, s, mm b m M) o hf) : JV (Ev mtab mcode d) jcX7_inState (4, [(0, .ref b), (1, .int w1), (2, .int c2), (3, .int 0)], []) (n, c, s, mm b m M) o hf := by
  rw [lf_X7_inState_4_eq] at hc
  unfold ly_X7_inState_4 at hc
  exact lp_X7_inState_4 hd hNc hN N 0 c2 (by omega) hc
noncomputable def y_X7_inState (m : Mem) (p1 : Int32) : Int32 := (lf_X7_inState_4 m p1 (ix (m 1 0 2)) 0)
theorem xe_X7_inState : ∃ f, f = y_X7_inState := ⟨y_X7_inState, rfl⟩
noncomputable def x_X7_inState := Classical.choose xe_X7_inState
theorem x_X7_inState_eq : x_X7_inState = y_X7_inState := Classical.choose_spec xe_X7_inState
theorem ev_X7_inState {d n c s b : Nat} {m : Mem} {M : JM} {p1 : Int32} {res : Int32} (hd : 3 ≤ d) (hF : MK m) (hx : x_X7_inState m p1 = res) : Ev mtab mcode d 128 [.ref b, .int p1] (n, c, s, mm b m M) (.inl (some (.int res))) (n, c, s, mm b m M) := by
  obtain ⟨d, rfl⟩ : ∃ e, d = e + 1 := ⟨d - 1, by omega⟩
  rw [x_X7_inState_eq] at hx
  unfold y_X7_inState at hx
  refine jv_mk (m := mX7_inState) (cd := jcX7_inState) rfl rfl (Nat.le_of_ble_eq_true rfl) trivial ?_
  refine JV.stk (len := 1) (sem := (s_push (.int 0))) (p2 := 1) rfl rfl rfl ?_
  refine JV.ist (p2 := 2) rfl rfl rfl ?_
  refine JV.stk (len := 1) (sem := (s_push (.int 0))) (p2 := 3) rfl rfl rfl ?_
  refine JV.ist (p2 := 4) rfl rfl rfl ?_
  refine lq_X7_inState_4 (c2 := 0) (N := (ix (m 1 0 2))) (m := m) (w1 := p1) (by omega) hF.na.2 hF.na.1 ?_
  refine JV.ild (p2 := 39) rfl rfl rfl ?_
  subst hx
  exact JV.ret rfl (fun _ => rfl) rfl rfl
noncomputable def bd_X7_planeOf_4 (m : Mem) (w1 : Int32) (j : Nat) (c2 : Int32) : Int32 := (if (x_X7_of m j 5) = 1 then (if (x_X7_of m j 6) = w1 then (nI j) else c2) else (if (x_X7_of m j 5) = 3 then (if (x_X7_of m j 6) = w1 then (nI j) else c2) else (if (x_X7_of m j 5) = 4 then (if (x_X7_of m j 6) = w1 then (nI j) else c2) else c2)))
noncomputable def ly_X7_planeOf_4 (m : Mem) (w1 : Int32) (N : Nat) (c2 : Int32) : Int32 := itr (fun jz s => bd_X7_planeOf_4 m w1 jz s) N 0 c2
theorem le_X7_planeOf_4 : ∃ f, f = ly_X7_planeOf_4 := ⟨ly_X7_planeOf_4, rfl⟩
noncomputable def lf_X7_planeOf_4 := Classical.choose le_X7_planeOf_4
theorem lf_X7_planeOf_4_eq : lf_X7_planeOf_4 = ly_X7_planeOf_4 := Classical.choose_spec le_X7_planeOf_4
theorem fb_X7_planeOf_4 {m : Mem} {w1 : Int32} {j : Nat} {c2 : Int32} (hjN : j < 12) (hb : VX 12 c2) : (VX 12 (bd_X7_planeOf_4 m w1 j c2)) := by
  unfold bd_X7_planeOf_4
  by_cases h21 : (x_X7_of m j 5) = 1
  · rw [if_pos h21]
    by_cases h64 : (x_X7_of m j 6) = w1
    · rw [if_pos h64]
      exact (by first | assumption | exact VX_nI (by omega) (by decide))
    · rw [if_neg h64]
      exact (by first | assumption | exact VX_nI (by omega) (by decide))
  · rw [if_neg h21]
    by_cases h31 : (x_X7_of m j 5) = 3
    · rw [if_pos h31]
      by_cases h64 : (x_X7_of m j 6) = w1
      · rw [if_pos h64]
        exact (by first | assumption | exact VX_nI (by omega) (by decide))
      · rw [if_neg h64]
        exact (by first | assumption | exact VX_nI (by omega) (by decide))
    · rw [if_neg h31]
      by_cases h41 : (x_X7_of m j 5) = 4
      · rw [if_pos h41]
        by_cases h64 : (x_X7_of m j 6) = w1
        · rw [if_pos h64]
          exact (by first | assumption | exact VX_nI (by omega) (by decide))
        · rw [if_neg h64]
          exact (by first | assumption | exact VX_nI (by omega) (by decide))
      · rw [if_neg h41]
        exact (by first | assumption | exact VX_nI (by omega) (by decide))
theorem fl_X7_planeOf_4 {m : Mem} {w1 : Int32} {N : Nat} {c2 : Int32} (hNc : N ≤ 12) (hb : VX 12 c2) : (VX 12 (lf_X7_planeOf_4 m w1 N c2)) := by
  rw [lf_X7_planeOf_4_eq]
  unfold ly_X7_planeOf_4
  exact itr_inv (n := N) (s := c2) (P := fun jz s => (VX 12 s)) (fun jz s => bd_X7_planeOf_4 m w1 jz s) (fun jz s hj hs => fb_X7_planeOf_4 (j := jz) (c2 := s) (by omega) hs) hb
theorem lp_X7_planeOf_4 {d n c s b : Nat} {M : JM} {o : JO} {hf : JH} {m : Mem} {w1 : Int32} {N : Nat} (hd : 2 ≤ d) (hNc : N ≤ 12) (hN : m 1 0 2 = nI N) : ∀ (k j : Nat) (c2 : Int32), j + k = N → (VX 12 c2) → JV (Ev mtab mcode d) jcX7_planeOf (79, [(0, .ref b), (1, .int w1), (2, .int (itr (fun jz s => bd_X7_planeOf_4 m w1 jz s) k j c2))], []) (n, c, s, mm b m M) o hf → JV (Ev mtab mcode d) jcX7_planeOf (4, [(0, .ref b), (1, .int w1), (2, .int c2), (3, .int (nI j))], []) (n, c, s, mm b m M) o hf := by
  intro k
  induction k with
  | zero =>
    intro j c2 hj hb hc
    refine JV.ild (p2 := 5) rfl rfl rfl ?_
    refine JV.ald (p2 := 6) rfl rfl rfl ?_
    refine JV.getf (p2 := 9) rfl mm_M rfl rfl ?_
    refine JV.stk (len := 1) (sem := (s_push (.int 2))) (p2 := 10) rfl rfl rfl ?_
    refine JV.iald (p2 := 11) (j := 2) rfl mm_1 rfl (by omega) (by decide) rfl ?_
    refine JV.brT rfl rfl (by rw [hN]; exact nI_le (a := N) (b := j) (by omega) (by omega)) ?_
    exact JV.keep [0, 1, 2] rfl hc
  | succ k ih =>
    intro j c2 hj hb hc
    obtain ⟨s1, hx⟩ : ∃ s1, bd_X7_planeOf_4 m w1 j c2 = s1 := ⟨_, rfl⟩
    have hc2 : JV (Ev mtab mcode d) jcX7_planeOf (79, [(0, .ref b), (1, .int w1), (2, .int (itr (fun jz s => bd_X7_planeOf_4 m w1 jz s) k (j + 1) s1))], []) (n, c, s, mm b m M) o hf := by
      subst hx
      exact hc
    clear hc
    have iv := fb_X7_planeOf_4 (m := m) (w1 := w1) (j := j) (c2 := c2) (by omega) hb
    rw [hx] at iv
    unfold bd_X7_planeOf_4 at hx
    refine JV.ild (p2 := 5) rfl rfl rfl ?_
    refine JV.ald (p2 := 6) rfl rfl rfl ?_
    refine JV.getf (p2 := 9) rfl mm_M rfl rfl ?_
    refine JV.stk (len := 1) (sem := (s_push (.int 2))) (p2 := 10) rfl rfl rfl ?_
    refine JV.iald (p2 := 11) (j := 2) rfl mm_1 rfl (by omega) (by decide) rfl ?_
    refine JV.brF (p2 := 14) rfl rfl rfl (by rw [hN]; exact nI_ge (a := j) (b := N) (by omega) (by omega)) ?_
    refine JV.ald (p2 := 15) rfl rfl rfl ?_
    refine JV.ild (p2 := 16) rfl rfl rfl ?_
    refine JV.stk (len := 1) (sem := (s_push (.int 5))) (p2 := 17) rfl rfl rfl ?_
    refine JV.invI (p2 := 20) rfl rfl rfl mm_M (Nat.le_of_ble_eq_true rfl) rfl (ev_X7_of (q := j) (w := 5) (by omega) rfl rfl (by omega) (by omega) rfl) ?_
    refine JV.stk (len := 1) (sem := (s_push (.int 1))) (p2 := 21) rfl rfl rfl ?_
    by_cases h21 : (x_X7_of m j 5) = 1
    · rw [if_pos h21] at hx
      refine JV.brT rfl rfl h21 ?_
      refine JV.stk (len := 1) (sem := (s_push (.int 1))) (p2 := 45) rfl rfl rfl ?_
      refine JV.goto rfl ?_
      refine JV.ist (p2 := 51) rfl rfl rfl ?_
      refine JV.ild (p2 := 53) rfl rfl rfl ?_
      refine JV.brF (p2 := 56) rfl rfl rfl (by decide) ?_
      refine JV.ald (p2 := 57) rfl rfl rfl ?_
      refine JV.ild (p2 := 58) rfl rfl rfl ?_
      refine JV.stk (len := 2) (sem := (s_push (.int 6))) (p2 := 60) rfl rfl rfl ?_
      refine JV.invI (p2 := 63) rfl rfl rfl mm_M (Nat.le_of_ble_eq_true rfl) rfl (ev_X7_of (q := j) (w := 6) (by omega) rfl rfl (by omega) (by omega) rfl) ?_
      refine JV.ild (p2 := 64) rfl rfl rfl ?_
      by_cases h64 : (x_X7_of m j 6) = w1
      · rw [if_pos h64] at hx
        refine JV.brF (p2 := 67) rfl rfl rfl (fun e => e h64) ?_
        refine JV.ild (p2 := 68) rfl rfl rfl ?_
        refine JV.goto rfl ?_
        refine JV.ist (p2 := 73) rfl rfl rfl ?_
        refine JV.iinc (p2 := 76) rfl rfl (nI_1 _) rfl rfl ?_
        refine JV.goto rfl ?_
        refine JV.keep [0, 1, 2, 3] rfl ?_
        subst hx
        exact ih (j + 1) _ (by omega) iv hc2
      · rw [if_neg h64] at hx
        refine JV.brT rfl rfl h64 ?_
        refine JV.ild (p2 := 72) rfl rfl rfl ?_
        refine JV.ist (p2 := 73) rfl rfl rfl ?_
        refine JV.iinc (p2 := 76) rfl rfl (nI_1 _) rfl rfl ?_
        refine JV.goto rfl ?_
        refine JV.keep [0, 1, 2, 3] rfl ?_
        subst hx
        exact ih (j + 1) _ (by omega) iv hc2
    · rw [if_neg h21] at hx
      refine JV.brF (p2 := 24) rfl rfl rfl h21 ?_
      refine JV.ald (p2 := 25) rfl rfl rfl ?_
      refine JV.ild (p2 := 26) rfl rfl rfl ?_
      refine JV.stk (len := 1) (sem := (s_push (.int 5))) (p2 := 27) rfl rfl rfl ?_
      refine JV.invI (p2 := 30) rfl rfl rfl mm_M (Nat.le_of_ble_eq_true rfl) rfl (ev_X7_of (q := j) (w := 5) (by omega) rfl rfl (by omega) (by omega) rfl) ?_
      refine JV.stk (len := 1) (sem := (s_push (.int 3))) (p2 := 31) rfl rfl rfl ?_
      by_cases h31 : (x_X7_of m j 5) = 3
      · rw [if_pos h31] at hx
        refine JV.brT rfl rfl h31 ?_
        refine JV.stk (len := 1) (sem := (s_push (.int 1))) (p2 := 45) rfl rfl rfl ?_
        refine JV.goto rfl ?_
        refine JV.ist (p2 := 51) rfl rfl rfl ?_
        refine JV.ild (p2 := 53) rfl rfl rfl ?_
        refine JV.brF (p2 := 56) rfl rfl rfl (by decide) ?_
        refine JV.ald (p2 := 57) rfl rfl rfl ?_
        refine JV.ild (p2 := 58) rfl rfl rfl ?_
        refine JV.stk (len := 2) (sem := (s_push (.int 6))) (p2 := 60) rfl rfl rfl ?_
        refine JV.invI (p2 := 63) rfl rfl rfl mm_M (Nat.le_of_ble_eq_true rfl) rfl (ev_X7_of (q := j) (w := 6) (by omega) rfl rfl (by omega) (by omega) rfl) ?_
        refine JV.ild (p2 := 64) rfl rfl rfl ?_
        by_cases h64 : (x_X7_of m j 6) = w1
        · rw [if_pos h64] at hx
          refine JV.brF (p2 := 67) rfl rfl rfl (fun e => e h64) ?_
          refine JV.ild (p2 := 68) rfl rfl rfl ?_
          refine JV.goto rfl ?_
          refine JV.ist (p2 := 73) rfl rfl rfl ?_
          refine JV.iinc (p2 := 76) rfl rfl (nI_1 _) rfl rfl ?_
          refine JV.goto rfl ?_
          refine JV.keep [0, 1, 2, 3] rfl ?_
          subst hx
          exact ih (j + 1) _ (by omega) iv hc2
        · rw [if_neg h64] at hx
          refine JV.brT rfl rfl h64 ?_
          refine JV.ild (p2 := 72) rfl rfl rfl ?_
          refine JV.ist (p2 := 73) rfl rfl rfl ?_
          refine JV.iinc (p2 := 76) rfl rfl (nI_1 _) rfl rfl ?_
          refine JV.goto rfl ?_
          refine JV.keep [0, 1, 2, 3] rfl ?_
          subst hx
          exact ih (j + 1) _ (by omega) iv hc2
      · rw [if_neg h31] at hx
        refine JV.brF (p2 := 34) rfl rfl rfl h31 ?_
        refine JV.ald (p2 := 35) rfl rfl rfl ?_
        refine JV.ild (p2 := 36) rfl rfl rfl ?_
        refine JV.stk (len := 1) (sem := (s_push (.int 5))) (p2 := 37) rfl rfl rfl ?_
        refine JV.invI (p2 := 40) rfl rfl rfl mm_M (Nat.le_of_ble_eq_true rfl) rfl (ev_X7_of (q := j) (w := 5) (by omega) rfl rfl (by omega) (by omega) rfl) ?_
        refine JV.stk (len := 1) (sem := (s_push (.int 4))) (p2 := 41) rfl rfl rfl ?_
        by_cases h41 : (x_X7_of m j 5) = 4
        · rw [if_pos h41] at hx
          refine JV.brF (p2 := 44) rfl rfl rfl (fun e => e h41) ?_
          refine JV.stk (len := 1) (sem := (s_push (.int 1))) (p2 := 45) rfl rfl rfl ?_
          refine JV.goto rfl ?_
          refine JV.ist (p2 := 51) rfl rfl rfl ?_
          refine JV.ild (p2 := 53) rfl rfl rfl ?_
          refine JV.brF (p2 := 56) rfl rfl rfl (by decide) ?_
          refine JV.ald (p2 := 57) rfl rfl rfl ?_
          refine JV.ild (p2 := 58) rfl rfl rfl ?_
          refine JV.stk (len := 2) (sem := (s_push (.int 6))) (p2 := 60) rfl rfl rfl ?_
          refine JV.invI (p2 := 63) rfl rfl rfl mm_M (Nat.le_of_ble_eq_true rfl) rfl (ev_X7_of (q := j) (w := 6) (by omega) rfl rfl (by omega) (by omega) rfl) ?_
          refine JV.ild (p2 := 64) rfl rfl rfl ?_
          by_cases h64 : (x_X7_of m j 6) = w1
          · rw [if_pos h64] at hx
            refine JV.brF (p2 := 67) rfl rfl rfl (fun e => e h64) ?_
            refine JV.ild (p2 := 68) rfl rfl rfl ?_
            refine JV.goto rfl ?_
            refine JV.ist (p2 := 73) rfl rfl rfl ?_
            refine JV.iinc (p2 := 76) rfl rfl (nI_1 _) rfl rfl ?_
            refine JV.goto rfl ?_
            refine JV.keep [0, 1, 2, 3] rfl ?_
            subst hx
            exact ih (j + 1) _ (by omega) iv hc2
          · rw [if_neg h64] at hx
            refine JV.brT rfl rfl h64 ?_
            refine JV.ild (p2 := 72) rfl rfl rfl ?_
            refine JV.ist (p2 := 73) rfl rfl rfl ?_
            refine JV.iinc (p2 := 76) rfl rfl (nI_1 _) rfl rfl ?_
            refine JV.goto rfl ?_
            refine JV.keep [0, 1, 2, 3] rfl ?_
            subst hx
            exact ih (j + 1) _ (by omega) iv hc2
        · rw [if_neg h41] at hx
          refine JV.brT rfl rfl h41 ?_
          refine JV.stk (len := 1) (sem := (s_push (.int 0))) (p2 := 49) rfl rfl rfl ?_
          refine JV.ist (p2 := 51) rfl rfl rfl ?_
          refine JV.ild (p2 := 53) rfl rfl rfl ?_
          refine JV.brT rfl rfl (by decide) ?_
          refine JV.ild (p2 := 72) rfl rfl rfl ?_
          refine JV.ist (p2 := 73) rfl rfl rfl ?_
          refine JV.iinc (p2 := 76) rfl rfl (nI_1 _) rfl rfl ?_
          refine JV.goto rfl ?_
          refine JV.keep [0, 1, 2, 3] rfl ?_
          subst hx
          exact ih (j + 1) _ (by omega) iv hc2
theorem lq_X7_planeOf_4 {d n c s b : Nat} {M : JM} {o : JO} {hf : JH} {m : Mem} {w1 : Int32} {N : Nat} {c2 : Int32} (hd : 2 ≤ d) (hNc : N ≤ 12) (hN : m 1 0 2 = nI N) (hb : VX 12 c2) (hc : JV (Ev mtab mcode d) jcX7_planeOf (79, [(0, .ref b), (1, .int w1), (2, .int (lf_X7_planeOf_4 m w1 N c2))], []) (n, c, s, mm b m M) o hf) : JV (Ev mtab mcode d) jcX7_planeOf (4, [(0, .ref b), (1, .int w1), (2, .int c2), (3, .int 0)], []) (n, c, s, mm b m M) o hf := by
  rw [lf_X7_planeOf_4_eq] at hc
  unfold ly_X7_planeOf_4 at hc
  exact lp_X7_planeOf_4 hd hNc hN N 0 c2 (by omega) hb hc
noncomputable def y_X7_planeOf (m : Mem) (p1 : Int32) : Int32 := (lf_X7_planeOf_4 m p1 (ix (m 1 0 2)) (-1))
theorem xe_X7_planeOf : ∃ f, f = y_X7_planeOf := ⟨y_X7_planeOf, rfl⟩
noncomputable def x_X7_planeOf := Classical.choose xe_X7_planeOf
theorem x_X7_planeOf_eq : x_X7_planeOf = y_X7_planeOf := Classical.choose_spec xe_X7_planeOf
theorem ev_X7_planeOf {d n c s b : Nat} {m : Mem} {M : JM} {p1 : Int32} {res : Int32} (hd : 3 ≤ d) (hF : MK m) (hx : x_X7_planeOf m p1 = res) : Ev mtab mcode d 115 [.ref b, .int p1] (n, c, s, mm b m M) (.inl (some (.int res))) (n, c, s, mm b m M) := by
  obtain ⟨d, rfl⟩ : ∃ e, d = e + 1 := ⟨d - 1, by omega⟩
  rw [x_X7_planeOf_eq] at hx
  unfold y_X7_planeOf at hx
  refine jv_mk (m := mX7_planeOf) (cd := jcX7_planeOf) rfl rfl (Nat.le_of_ble_eq_true rfl) trivial ?_
  refine JV.stk (len := 1) (sem := (s_push (.int (-1)))) (p2 := 1) rfl rfl rfl ?_
  refine JV.ist (p2 := 2) rfl rfl rfl ?_
  refine JV.stk (len := 1) (sem := (s_push (.int 0))) (p2 := 3) rfl rfl rfl ?_
  refine JV.ist (p2 := 4) rfl rfl rfl ?_
  refine lq_X7_planeOf_4 (c2 := (-1)) (N := (ix (m 1 0 2))) (m := m) (w1 := p1) (by omega) hF.na.2 hF.na.1 (Or.inl rfl) ?_
  refine JV.ild (p2 := 80) rfl rfl rfl ?_
  subst hx
  exact JV.ret rfl (fun _ => rfl) rfl rfl
theorem vx_X7_planeOf {m : Mem} {p1 : Int32} (hF : MK m) : VX 12 (x_X7_planeOf m p1) := by
  rw [x_X7_planeOf_eq]
  exact fl_X7_planeOf_4 hF.na.2 (Or.inl rfl)
noncomputable def bd_X7_standFor_4 (m : Mem) (q : Nat) (j : Nat) (c2 : Int32) : Int32 := (if (m 1 0 (8 + 2 * j + 0)) < (x_X7_of m q 0) then c2 else (if (x_X7_planeOf m (nI j)) = (-1) then (if c2 = (-1) then (nI j) else (if (m 1 0 (8 + 2 * j + 0)) < (m 1 0 (8 + 2 * (ix c2) + 0)) then (nI j) else c2)) else c2))
noncomputable def ly_X7_standFor_4 (m : Mem) (q : Nat) (N : Nat) (c2 : Int32) : Int32 := itr (fun jz s => bd_X7_standFor_4 m q jz s) N 0 c2
theorem le_X7_standFor_4 : ∃ f, f = ly_X7_standFor_4 := ⟨ly_X7_standFor_4, rfl⟩
noncomputable def lf_X7_standFor_4 := Classical.choose le_X7_standFor_4
theorem lf_X7_standFor_4_eq : lf_X7_standFor_4 = ly_X7_standFor_4 := Classical.choose_spec le_X7_standFor_4
theorem fb_X7_standFor_4 {m : Mem} {q : Nat} (hF : MK m) (hq : q < 12) {j : Nat} {c2 : Int32} (hjN : j < 6) (hb : VX 6 c2) : (VX 6 (bd_X7_standFor_4 m q j c2)) := by
  unfold bd_X7_standFor_4
  by_cases h34 : (m 1 0 (8 + 2 * j + 0)) < (x_X7_of m q 0)
  · rw [if_pos h34]
    exact (by first | assumption | exact VX_nI (by omega) (by decide))
  · rw [if_neg h34]
    by_cases h43 : (x_X7_planeOf m (nI j)) = (-1)
    · rw [if_pos h43]
      by_cases h60 : c2 = (-1)
      · rw [if_pos h60]
        exact (by first | assumption | exact VX_nI (by omega) (by decide))
      · rw [if_neg h60]
        have b63 : ix c2 < 6 := VX.lt hb h60
        by_cases h75 : (m 1 0 (8 + 2 * j + 0)) < (m 1 0 (8 + 2 * (ix c2) + 0))
        · rw [if_pos h75]
          exact (by first | assumption | exact VX_nI (by omega) (by decide))
        · rw [if_neg h75]
          exact (by first | assumption | exact VX_nI (by omega) (by decide))
    · rw [if_neg h43]
      exact (by first | assumption | exact VX_nI (by omega) (by decide))
theorem fl_X7_standFor_4 {m : Mem} {q : Nat} {N : Nat} (hF : MK m) (hq : q < 12) {c2 : Int32} (hNc : N ≤ 6) (hb : VX 6 c2) : (VX 6 (lf_X7_standFor_4 m q N c2)) := by
  rw [lf_X7_standFor_4_eq]
  unfold ly_X7_standFor_4
  exact itr_inv (n := N) (s := c2) (P := fun jz s => (VX 6 s)) (fun jz s => bd_X7_standFor_4 m q jz s) (fun jz s hj hs => fb_X7_standFor_4 hF hq (j := jz) (c2 := s) (by omega) hs) hb
theorem lp_X7_standFor_4 {d n c s b : Nat} {M : JM} {o : JO} {hf : JH} {m : Mem} {q : Nat} {N : Nat} (hd : 3 ≤ d) (hF : MK m) (hq : q < 12) (hNc : N ≤ 6) (hN : m 1 0 0 = nI N) : ∀ (k j : Nat) (c2 : Int32), j + k = N → (VX 6 c2) → JV (Ev mtab mcode d) jcX7_standFor (90, [(0, .ref b), (1, .int (nI q)), (2, .int (itr (fun jz s => bd_X7_standFor_4 m q jz s) k j c2))], []) (n, c, s, mm b m M) o hf → JV (Ev mtab mcode d) jcX7_standFor (4, [(0, .ref b), (1, .int (nI q)), (2, .int c2), (3, .int (nI j))], []) (n, c, s, mm b m M) o hf := by
  intro k
  induction k with
  | zero =>
    intro j c2 hj hb hc
    refine JV.ild (p2 := 5) rfl rfl rfl ?_
    refine JV.ald (p2 := 6) rfl rfl rfl ?_
    refine JV.getf (p2 := 9) rfl mm_M rfl rfl ?_
    refine JV.stk (len := 1) (sem := (s_push (.int 0))) (p2 := 10) rfl rfl rfl ?_
    refine JV.iald (p2 := 11) (j := 0) rfl mm_1 rfl (by omega) (by decide) rfl ?_
    refine JV.brT rfl rfl (by rw [hN]; exact nI_le (a := N) (b := j) (by omega) (by omega)) ?_
    exact JV.keep [0, 1, 2] rfl hc
  | succ k ih =>
    intro j c2 hj hb hc
    obtain ⟨s1, hx⟩ : ∃ s1, bd_X7_standFor_4 m q j c2 = s1 := ⟨_, rfl⟩
    have hc2 : JV (Ev mtab mcode d) jcX7_standFor (90, [(0, .ref b), (1, .int (nI q)), (2, .int (itr (fun jz s => bd_X7_standFor_4 m q jz s) k (j + 1) s1))], []) (n, c, s, mm b m M) o hf := by
      subst hx
      exact hc
    clear hc
    have iv := fb_X7_standFor_4 (m := m) (q := q) hF hq (j := j) (c2 := c2) (by omega) hb
    rw [hx] at iv
    unfold bd_X7_standFor_4 at hx
    refine JV.ild (p2 := 5) rfl rfl rfl ?_
    refine JV.ald (p2 := 6) rfl rfl rfl ?_
    refine JV.getf (p2 := 9) rfl mm_M rfl rfl ?_
    refine JV.stk (len := 1) (sem := (s_push (.int 0))) (p2 := 10) rfl rfl rfl ?_
    refine JV.iald (p2 := 11) (j := 0) rfl mm_1 rfl (by omega) (by decide) rfl ?_
    refine JV.brF (p2 := 14) rfl rfl rfl (by rw [hN]; exact nI_ge (a := j) (b := N) (by omega) (by omega)) ?_
    refine JV.ald (p2 := 15) rfl rfl rfl ?_
    refine JV.getf (p2 := 18) rfl mm_M rfl rfl ?_
    refine JV.ild (p2 := 19) rfl rfl rfl ?_
    refine JV.stk (len := 1) (sem := (s_push (.int 0))) (p2 := 20) rfl rfl rfl ?_
    refine JV.insI (p2 := 23) rfl (Nat.le_of_ble_eq_true rfl) rfl rfl (Nat.le_of_ble_eq_true rfl) rfl (ev_X7_standAt (by omega) rfl) rfl ?_
    refine JV.iald (p2 := 24) (j := (8 + 2 * j + 0)) rfl mm_1 (sa_at rfl rfl) (by omega) (by decide) rfl ?_
    refine JV.ist (p2 := 26) rfl rfl rfl ?_
    refine JV.ild (p2 := 28) rfl rfl rfl ?_
    refine JV.ald (p2 := 29) rfl rfl rfl ?_
    refine JV.ild (p2 := 30) rfl rfl rfl ?_
    refine JV.stk (len := 1) (sem := (s_push (.int 0))) (p2 := 31) rfl rfl rfl ?_
    refine JV.invI (p2 := 34) rfl rfl rfl mm_M (Nat.le_of_ble_eq_true rfl) rfl (ev_X7_of (q := q) (w := 0) (by omega) rfl rfl (by omega) (by omega) rfl) ?_
    by_cases h34 : (m 1 0 (8 + 2 * j + 0)) < (x_X7_of m q 0)
    · rw [if_pos h34] at hx
      refine JV.brT rfl rfl h34 ?_
      refine JV.stk (len := 1) (sem := (s_push (.int 0))) (p2 := 51) rfl rfl rfl ?_
      refine JV.ist (p2 := 53) rfl rfl rfl ?_
      refine JV.ild (p2 := 55) rfl rfl rfl ?_
      refine JV.brT rfl rfl (by decide) ?_
      refine JV.ild (p2 := 83) rfl rfl rfl ?_
      refine JV.ist (p2 := 84) rfl rfl rfl ?_
      refine JV.iinc (p2 := 87) rfl rfl (nI_1 _) rfl rfl ?_
      refine JV.goto rfl ?_
      refine JV.keep [0, 1, 2, 3] rfl ?_
      subst hx
      exact ih (j + 1) _ (by omega) iv hc2
    · rw [if_neg h34] at hx
      refine JV.brF (p2 := 37) rfl rfl rfl h34 ?_
      refine JV.ald (p2 := 38) rfl rfl rfl ?_
      refine JV.ild (p2 := 39) rfl rfl rfl ?_
      refine JV.invI (p2 := 42) rfl rfl rfl mm_M (Nat.le_of_ble_eq_true rfl) rfl (ev_X7_planeOf (by omega) hF rfl) ?_
      refine JV.stk (len := 1) (sem := (s_push (.int (-1)))) (p2 := 43) rfl rfl rfl ?_
      by_cases h43 : (x_X7_planeOf m (nI j)) = (-1)
      · rw [if_pos h43] at hx
        refine JV.brF (p2 := 46) rfl rfl rfl (fun e => e h43) ?_
        refine JV.stk (len := 1) (sem := (s_push (.int 1))) (p2 := 47) rfl rfl rfl ?_
        refine JV.goto rfl ?_
        refine JV.ist (p2 := 53) rfl rfl rfl ?_
        refine JV.ild (p2 := 55) rfl rfl rfl ?_
        refine JV.brF (p2 := 58) rfl rfl rfl (by decide) ?_
        refine JV.ild (p2 := 59) rfl rfl rfl ?_
        refine JV.stk (len := 1) (sem := (s_push (.int (-1)))) (p2 := 60) rfl rfl rfl ?_
        by_cases h60 : c2 = (-1)
        · rw [if_pos h60] at hx
          refine JV.brT rfl rfl h60 ?_
          refine JV.ild (p2 := 79) rfl rfl rfl ?_
          refine JV.goto rfl ?_
          refine JV.ist (p2 := 84) rfl rfl rfl ?_
          refine JV.iinc (p2 := 87) rfl rfl (nI_1 _) rfl rfl ?_
          refine JV.goto rfl ?_
          refine JV.keep [0, 1, 2, 3] rfl ?_
          subst hx
          exact ih (j + 1) _ (by omega) iv hc2
        · rw [if_neg h60] at hx
          refine JV.brF (p2 := 63) rfl rfl rfl h60 ?_
          have b63 : ix c2 < 6 := VX.lt hb h60
          refine JV.ild (p2 := 65) rfl rfl rfl ?_
          refine JV.ald (p2 := 66) rfl rfl rfl ?_
          refine JV.getf (p2 := 69) rfl mm_M rfl rfl ?_
          refine JV.ild (p2 := 70) rfl rfl rfl ?_
          refine JV.stk (len := 1) (sem := (s_push (.int 0))) (p2 := 71) rfl rfl rfl ?_
          refine JV.insI (p2 := 74) rfl (Nat.le_of_ble_eq_true rfl) rfl rfl (Nat.le_of_ble_eq_true rfl) rfl (ev_X7_standAt (by omega) rfl) rfl ?_
          refine JV.iald (p2 := 75) (j := (8 + 2 * (ix c2) + 0)) rfl mm_1 (sa_at (VX.eq hb h60) rfl) (by omega) (by decide) rfl ?_
          by_cases h75 : (m 1 0 (8 + 2 * j + 0)) < (m 1 0 (8 + 2 * (ix c2) + 0))
          · rw [if_pos h75] at hx
            refine JV.brF (p2 := 78) rfl rfl rfl (Int32.not_le.mpr h75) ?_
            refine JV.ild (p2 := 79) rfl rfl rfl ?_
            refine JV.goto rfl ?_
            refine JV.ist (p2 := 84) rfl rfl rfl ?_
            refine JV.iinc (p2 := 87) rfl rfl (nI_1 _) rfl rfl ?_
            refine JV.goto rfl ?_
            refine JV.keep [0, 1, 2, 3] rfl ?_
            subst hx
            exact ih (j + 1) _ (by omega) iv hc2
          · rw [if_neg h75] at hx
            refine JV.brT rfl rfl (Int32.not_lt.mp h75) ?_
            refine JV.ild (p2 := 83) rfl rfl rfl ?_
            refine JV.ist (p2 := 84) rfl rfl rfl ?_
            refine JV.iinc (p2 := 87) rfl rfl (nI_1 _) rfl rfl ?_
            refine JV.goto rfl ?_
            refine JV.keep [0, 1, 2, 3] rfl ?_
            subst hx
            exact ih (j + 1) _ (by omega) iv hc2
      · rw [if_neg h43] at hx
        refine JV.brT rfl rfl h43 ?_
        refine JV.stk (len := 1) (sem := (s_push (.int 0))) (p2 := 51) rfl rfl rfl ?_
        refine JV.ist (p2 := 53) rfl rfl rfl ?_
        refine JV.ild (p2 := 55) rfl rfl rfl ?_
        refine JV.brT rfl rfl (by decide) ?_
        refine JV.ild (p2 := 83) rfl rfl rfl ?_
        refine JV.ist (p2 := 84) rfl rfl rfl ?_
        refine JV.iinc (p2 := 87) rfl rfl (nI_1 _) rfl rfl ?_
        refine JV.goto rfl ?_
        refine JV.keep [0, 1, 2, 3] rfl ?_
        subst hx
        exact ih (j + 1) _ (by omega) iv hc2
theorem lq_X7_standFor_4 {d n c s b : Nat} {M : JM} {o : JO} {hf : JH} {m : Mem} {q : Nat} {N : Nat} {c2 : Int32} (hd : 3 ≤ d) (hF : MK m) (hq : q < 12) (hNc : N ≤ 6) (hN : m 1 0 0 = nI N) (hb : VX 6 c2) (hc : JV (Ev mtab mcode d) jcX7_standFor (90, [(0, .ref b), (1, .int (nI q)), (2, .int (lf_X7_standFor_4 m q N c2))], []) (n, c, s, mm b m M) o hf) : JV (Ev mtab mcode d) jcX7_standFor (4, [(0, .ref b), (1, .int (nI q)), (2, .int c2), (3, .int 0)], []) (n, c, s, mm b m M) o hf := by
  rw [lf_X7_standFor_4_eq] at hc
  unfold ly_X7_standFor_4 at hc
  exact lp_X7_standFor_4 hd hF hq hNc hN N 0 c2 (by omega) hb hc
noncomputable def y_X7_standFor (m : Mem) (q : Nat) : Int32 := (lf_X7_standFor_4 m q (ix (m 1 0 0)) (-1))
theorem xe_X7_standFor : ∃ f, f = y_X7_standFor := ⟨y_X7_standFor, rfl⟩
noncomputable def x_X7_standFor := Classical.choose xe_X7_standFor
theorem x_X7_standFor_eq : x_X7_standFor = y_X7_standFor := Classical.choose_spec xe_X7_standFor
theorem ev_X7_standFor {d n c s b : Nat} {m : Mem} {M : JM} {q : Nat} {v_q : Int32} {res : Int32} (hd : 4 ≤ d) (e_q : v_q = nI q) (hF : MK m) (hq : q < 12) (hx : x_X7_standFor m q = res) : Ev mtab mcode d 116 [.ref b, .int v_q] (n, c, s, mm b m M) (.inl (some (.int res))) (n, c, s, mm b m M) := by
  obtain ⟨d, rfl⟩ : ∃ e, d = e + 1 := ⟨d - 1, by omega⟩
  subst e_q
  rw [x_X7_standFor_eq] at hx
  unfold y_X7_standFor at hx
  refine jv_mk (m := mX7_standFor) (cd := jcX7_standFor) rfl rfl (Nat.le_of_ble_eq_true rfl) trivial ?_
  refine JV.stk (len := 1) (sem := (s_push (.int (-1)))) (p2 := 1) rfl rfl rfl ?_
  refine JV.ist (p2 := 2) rfl rfl rfl ?_
  refine JV.stk (len := 1) (sem := (s_push (.int 0))) (p2 := 3) rfl rfl rfl ?_
  refine JV.ist (p2 := 4) rfl rfl rfl ?_
  refine lq_X7_standFor_4 (c2 := (-1)) (N := (ix (m 1 0 0))) (m := m) (q := q) (by omega) hF hq hF.ns.2 hF.ns.1 (Or.inl rfl) ?_
  refine JV.ild (p2 := 91) rfl rfl rfl ?_
  subst hx
  exact JV.ret rfl (fun _ => rfl) rfl rfl
theorem vx_X7_standFor {m : Mem} {q : Nat} (hF : MK m) (hq : q < 12) : VX 6 (x_X7_standFor m q) := by
  rw [x_X7_standFor_eq]
  exact fl_X7_standFor_4 hF hq hF.ns.2 (Or.inl rfl)
