theorem in_of {x a b : Int64} (h : x_X7_in x a b = true) : ¬ x < a ∧ ¬ b < x := by
  rw [x_X7_in_eq] at h
  unfold y_X7_in at h
  refine ⟨fun e => ?_, fun e => ?_⟩
  · rw [if_pos e] at h
    cases h
  · rw [if_pos e] at h
    split at h <;> cases h
theorem in_VNk {x M : Int32} {k : Nat} {a b : Int64} (ha : 0 ≤ a.toInt) (hb : b.toInt = k) (hM : M.toInt = k) (h : x_X7_in x.toInt64 a b = true) (hk : k < 2 ^ 31) : VN k x := by
  obtain ⟨h1, h2⟩ := in_of h
  rw [Int64.lt_iff_toInt_lt, Int32.toInt_toInt64] at h1 h2
  obtain ⟨j, hj, e⟩ := nI_of2 (x := x) (M := M) (n := k) hM (fun q => by
    rw [Int32.lt_iff_toInt_lt] at q
    have z : (0 : Int32).toInt = 0 := by decide
    omega) (by
    rw [Int32.le_iff_toInt_le]
    omega)
  subst e
  unfold VN
  rw [ix_nI (by omega)]
  exact ⟨rfl, hj⟩
theorem in_VN6 {x : Int32} (h : x_X7_in x.toInt64 1 6 = true) : VN 6 x := in_VNk (M := 6) (by decide) (by decide) (by decide) h (by decide)
theorem in_VN3 {x : Int32} (h : x_X7_in x.toInt64 1 3 = true) : VN 3 x := in_VNk (M := 3) (by decide) (by decide) (by decide) h (by decide)
theorem vn_90 {x : Int32} (h : VN 90 x) (g : ¬ x = 90) : ix x < 90 := by
  have b := h.2
  have : ix x ≠ 90 := fun e => g (by rw [h.1, e]; rfl)
  omega
noncomputable def y_X7_minutesIf (m : Mem) : Mem × Int32 := ((x_X7_takesBack ((x_X7_toAll (x_X7_laysAside m)).1)), (x_X7_toAll (x_X7_laysAside m)).2)
theorem xe_X7_minutesIf : ∃ f, f = y_X7_minutesIf := ⟨y_X7_minutesIf, rfl⟩
noncomputable def x_X7_minutesIf := Classical.choose xe_X7_minutesIf
theorem x_X7_minutesIf_eq : x_X7_minutesIf = y_X7_minutesIf := Classical.choose_spec xe_X7_minutesIf
theorem ev_X7_minutesIf {d n c s b : Nat} {m : Mem} {M : JM} {B : Nat} {m0 : Mem} {res : Mem × Int32} (hd : 9 ≤ d) (hW : MW B m0 m) (hB : B + 0 < 2147483648) (hx : x_X7_minutesIf m = res) : Ev mtab mcode d 141 [.ref b] (n, c, s, mm b m M) (.inl (some (.int res.2))) (n, c, s, mm b res.1 M) := by
  obtain ⟨d, rfl⟩ : ∃ e, d = e + 1 := ⟨d - 1, by omega⟩
  rw [x_X7_minutesIf_eq] at hx
  unfold y_X7_minutesIf at hx
  refine jv_mk (m := mX7_minutesIf) (cd := jcX7_minutesIf) rfl rfl (Nat.le_of_ble_eq_true rfl) trivial ?_
  refine JV.ald (p2 := 1) rfl rfl rfl ?_
  refine JV.inv0 (p2 := 4) rfl rfl rfl mm_M (Nat.le_of_ble_eq_true rfl) rfl (ev_X7_laysAside (by omega) hW (by omega) rfl) ?_
  refine JV.ald (p2 := 5) rfl rfl rfl ?_
  refine JV.invI (p2 := 8) rfl rfl rfl mm_M (Nat.le_of_ble_eq_true rfl) rfl (ev_X7_toAll (by omega) (fw_X7_laysAside hW (by omega)) (by omega) rfl) ?_
  refine JV.ist (p2 := 9) rfl rfl rfl ?_
  refine JV.ald (p2 := 10) rfl rfl rfl ?_
  refine JV.inv0 (p2 := 13) rfl rfl rfl mm_M (Nat.le_of_ble_eq_true rfl) rfl (ev_X7_takesBack (by omega) rfl) ?_
  refine JV.ild (p2 := 14) rfl rfl rfl ?_
  subst hx
  exact JV.ret rfl (fun _ => rfl) rfl rfl
noncomputable def y_X7_here (m : Mem) : Int32 := (if (m 0 0 3) < (m 0 0 2) then (m 5 0 (ix (m 0 0 3))) else (-1))
theorem xe_X7_here : ∃ f, f = y_X7_here := ⟨y_X7_here, rfl⟩
noncomputable def x_X7_here := Classical.choose xe_X7_here
theorem x_X7_here_eq : x_X7_here = y_X7_here := Classical.choose_spec xe_X7_here
theorem ev_X7_here {d n c s b : Nat} {m : Mem} {M : JM}  {res : Int32} (hd : 1 ≤ d) (hP : ¬ m 0 0 3 < 0) (hT : VN 90 (m 0 0 2)) (hx : x_X7_here m = res) : Ev mtab mcode d 148 [.ref b] (n, c, s, mm b m M) (.inl (some (.int res))) (n, c, s, mm b m M) := by
  obtain ⟨d, rfl⟩ : ∃ e, d = e + 1 := ⟨d - 1, by omega⟩
  rw [x_X7_here_eq] at hx
  unfold y_X7_here at hx
  refine jv_mk (m := mX7_here) (cd := jcX7_here) rfl rfl (Nat.le_of_ble_eq_true rfl) trivial ?_
  refine JV.ald (p2 := 1) rfl rfl rfl ?_
  refine JV.getf (p2 := 4) rfl mm_M rfl rfl ?_
  refine JV.ald (p2 := 5) rfl rfl rfl ?_
  refine JV.getf (p2 := 8) rfl mm_M rfl rfl ?_
  by_cases h8 : (m 0 0 3) < (m 0 0 2)
  · rw [if_pos h8] at hx
    refine JV.brF (p2 := 11) rfl rfl rfl (Int32.not_le.mpr h8) ?_
    refine JV.ald (p2 := 12) rfl rfl rfl ?_
    refine JV.getf (p2 := 15) rfl mm_M rfl rfl ?_
    refine JV.ald (p2 := 16) rfl rfl rfl ?_
    refine JV.getf (p2 := 19) rfl mm_M rfl rfl ?_
    refine JV.iald (p2 := 20) (j := (ix (m 0 0 3))) rfl mm_5 (ix_eq hP) (ix_ltN hP h8 hT (by decide)) (by decide) rfl ?_
    refine JV.goto rfl ?_
    subst hx
    exact JV.ret rfl (fun _ => rfl) rfl rfl
  · rw [if_neg h8] at hx
    refine JV.brT rfl rfl (Int32.not_lt.mp h8) ?_
    refine JV.stk (len := 1) (sem := (s_push (.int (-1)))) (p2 := 24) rfl rfl rfl ?_
    subst hx
    exact JV.ret rfl (fun _ => rfl) rfl rfl
noncomputable def y_X7_passes (m : Mem) (p1 : Int32) : Mem × Bool := (if (x_X7_here m) = p1 then ((up3 m 0 0 3 ((m 0 0 3) + 1)), true) else ((up3 m 0 0 3 ((m 0 0 3) + 0)), false))
theorem xe_X7_passes : ∃ f, f = y_X7_passes := ⟨y_X7_passes, rfl⟩
noncomputable def x_X7_passes := Classical.choose xe_X7_passes
theorem x_X7_passes_eq : x_X7_passes = y_X7_passes := Classical.choose_spec xe_X7_passes
theorem ev_X7_passes {d n c s b : Nat} {m : Mem} {M : JM} {p1 : Int32} {res : Mem × Bool} (hd : 2 ≤ d) (hP : ¬ m 0 0 3 < 0) (hT : VN 90 (m 0 0 2)) (hx : x_X7_passes m p1 = res) : Ev mtab mcode d 149 [.ref b, .int p1] (n, c, s, mm b m M) (.inl (some (.int (bI res.2)))) (n, c, s, mm b res.1 M) := by
  obtain ⟨d, rfl⟩ : ∃ e, d = e + 1 := ⟨d - 1, by omega⟩
  rw [x_X7_passes_eq] at hx
  unfold y_X7_passes at hx
  refine jv_mk (m := mX7_passes) (cd := jcX7_passes) rfl rfl (Nat.le_of_ble_eq_true rfl) (bI_or _) ?_
  refine JV.ald (p2 := 1) rfl rfl rfl ?_
  refine JV.invI (p2 := 4) rfl rfl rfl mm_M (Nat.le_of_ble_eq_true rfl) rfl (ev_X7_here (by omega) hP hT rfl) ?_
  refine JV.ild (p2 := 5) rfl rfl rfl ?_
  by_cases h5 : (x_X7_here m) = p1
  · rw [if_pos h5] at hx
    refine JV.brF (p2 := 8) rfl rfl rfl (fun e => e h5) ?_
    refine JV.stk (len := 1) (sem := (s_push (.int 1))) (p2 := 9) rfl rfl rfl ?_
    refine JV.goto rfl ?_
    refine JV.ist (p2 := 14) rfl rfl rfl ?_
    refine JV.ald (p2 := 15) rfl rfl rfl ?_
    refine JV.stk (len := 1) (sem := s_dup) (p2 := 16) rfl rfl rfl ?_
    refine JV.getf (p2 := 19) rfl mm_M rfl rfl ?_
    refine JV.ild (p2 := 20) rfl rfl rfl ?_
    refine JV.brF (p2 := 23) rfl rfl rfl (by decide) ?_
    refine JV.stk (len := 1) (sem := (s_push (.int 1))) (p2 := 24) rfl rfl rfl ?_
    refine JV.goto rfl ?_
    refine JV.stk (len := 1) (sem := s_iadd) (p2 := 29) rfl rfl rfl ?_
    refine JV.puti (p2 := 32) rfl mm_M (Nat.le_of_ble_eq_true rfl) (mm_wM (k := 3) rfl) rfl ?_
    refine JV.ild (p2 := 33) rfl rfl rfl ?_
    subst hx
    exact JV.ret rfl (fun _ => rfl) rfl rfl
  · rw [if_neg h5] at hx
    refine JV.brT rfl rfl h5 ?_
    refine JV.stk (len := 1) (sem := (s_push (.int 0))) (p2 := 13) rfl rfl rfl ?_
    refine JV.ist (p2 := 14) rfl rfl rfl ?_
    refine JV.ald (p2 := 15) rfl rfl rfl ?_
    refine JV.stk (len := 1) (sem := s_dup) (p2 := 16) rfl rfl rfl ?_
    refine JV.getf (p2 := 19) rfl mm_M rfl rfl ?_
    refine JV.ild (p2 := 20) rfl rfl rfl ?_
    refine JV.brT rfl rfl (by decide) ?_
    refine JV.stk (len := 1) (sem := (s_push (.int 0))) (p2 := 28) rfl rfl rfl ?_
    refine JV.stk (len := 1) (sem := s_iadd) (p2 := 29) rfl rfl rfl ?_
    refine JV.puti (p2 := 32) rfl mm_M (Nat.le_of_ble_eq_true rfl) (mm_wM (k := 3) rfl) rfl ?_
    refine JV.ild (p2 := 33) rfl rfl rfl ?_
    subst hx
    exact JV.ret rfl (fun _ => rfl) rfl rfl
noncomputable def y_X7_readsDigit (m : Mem) (a : Nat) (p2 : Int32) : Mem × Bool := (if (x_X7_in (((x_X7_here m)).toInt64) 49 (((48 + p2)).toInt64)) = true then ((up3 (up3 m 6 0 a ((x_X7_here m) - 48)) 0 0 3 (((up3 m 6 0 a ((x_X7_here m) - 48)) 0 0 3) + 1)), (x_X7_in (((x_X7_here m)).toInt64) 49 (((48 + p2)).toInt64))) else ((up3 (up3 m 6 0 a ((x_X7_here m) - 48)) 0 0 3 (((up3 m 6 0 a ((x_X7_here m) - 48)) 0 0 3) + 0)), (x_X7_in (((x_X7_here m)).toInt64) 49 (((48 + p2)).toInt64))))
theorem xe_X7_readsDigit : ∃ f, f = y_X7_readsDigit := ⟨y_X7_readsDigit, rfl⟩
noncomputable def x_X7_readsDigit := Classical.choose xe_X7_readsDigit
theorem x_X7_readsDigit_eq : x_X7_readsDigit = y_X7_readsDigit := Classical.choose_spec xe_X7_readsDigit
theorem ev_X7_readsDigit {d n c s b : Nat} {m : Mem} {M : JM} {a : Nat} {v_a : Int32} {p2 : Int32} {res : Mem × Bool} (hd : 2 ≤ d) (e_a : v_a = nI a) (hP : ¬ m 0 0 3 < 0) (hT : VN 90 (m 0 0 2)) (ha : a < 60) (hx : x_X7_readsDigit m a p2 = res) : Ev mtab mcode d 151 [.ref b, .int v_a, .int p2] (n, c, s, mm b m M) (.inl (some (.int (bI res.2)))) (n, c, s, mm b res.1 M) := by
  obtain ⟨d, rfl⟩ : ∃ e, d = e + 1 := ⟨d - 1, by omega⟩
  subst e_a
  rw [x_X7_readsDigit_eq] at hx
  unfold y_X7_readsDigit at hx
  refine jv_mk (m := mX7_readsDigit) (cd := jcX7_readsDigit) rfl rfl (Nat.le_of_ble_eq_true rfl) (bI_or _) ?_
  refine JV.ald (p2 := 1) rfl rfl rfl ?_
  refine JV.invI (p2 := 4) rfl rfl rfl mm_M (Nat.le_of_ble_eq_true rfl) rfl (ev_X7_here (by omega) hP hT rfl) ?_
  refine JV.stk (len := 1) (sem := s_i2l) (p2 := 5) rfl rfl rfl ?_
  refine JV.ldc2 (p2 := 8) rfl rfl ?_
  refine JV.stk (len := 2) (sem := (s_push (.int 48))) (p2 := 10) rfl rfl rfl ?_
  refine JV.ild (p2 := 11) rfl rfl rfl ?_
  refine JV.stk (len := 1) (sem := s_iadd) (p2 := 12) rfl rfl rfl ?_
  refine JV.stk (len := 1) (sem := s_i2l) (p2 := 13) rfl rfl rfl ?_
  refine JV.insI (p2 := 16) rfl (Nat.le_of_ble_eq_true rfl) rfl rfl (Nat.le_of_ble_eq_true rfl) rfl (ev_X7_in (by omega) rfl) rfl ?_
  refine JV.ist (p2 := 17) rfl rfl rfl ?_
  refine JV.ald (p2 := 18) rfl rfl rfl ?_
  refine JV.getf (p2 := 21) rfl mm_M rfl rfl ?_
  refine JV.ild (p2 := 22) rfl rfl rfl ?_
  refine JV.ald (p2 := 23) rfl rfl rfl ?_
  refine JV.invI (p2 := 26) rfl rfl rfl mm_M (Nat.le_of_ble_eq_true rfl) rfl (ev_X7_here (by omega) hP hT rfl) ?_
  refine JV.stk (len := 2) (sem := (s_push (.int 48))) (p2 := 28) rfl rfl rfl ?_
  refine JV.stk (len := 1) (sem := s_isub) (p2 := 29) rfl rfl rfl ?_
  refine JV.iast (p2 := 30) (j := a) rfl mm_6 rfl (by omega) (by decide) (mm_w6 (k := a) rfl) rfl ?_
  refine JV.ald (p2 := 31) rfl rfl rfl ?_
  refine JV.stk (len := 1) (sem := s_dup) (p2 := 32) rfl rfl rfl ?_
  refine JV.getf (p2 := 35) rfl mm_M rfl rfl ?_
  refine JV.ild (p2 := 36) rfl rfl rfl ?_
  by_cases h36 : (x_X7_in (((x_X7_here m)).toInt64) 49 (((48 + p2)).toInt64)) = true
  · rw [if_pos h36] at hx
    refine JV.brF (p2 := 39) rfl rfl rfl (bI_t h36) ?_
    refine JV.stk (len := 1) (sem := (s_push (.int 1))) (p2 := 40) rfl rfl rfl ?_
    refine JV.goto rfl ?_
    refine JV.stk (len := 1) (sem := s_iadd) (p2 := 45) rfl rfl rfl ?_
    refine JV.puti (p2 := 48) rfl mm_M (Nat.le_of_ble_eq_true rfl) (mm_wM (k := 3) rfl) rfl ?_
    refine JV.ild (p2 := 49) rfl rfl rfl ?_
    subst hx
    exact JV.ret rfl (fun _ => rfl) rfl rfl
  · rw [if_neg h36] at hx
    refine JV.brT rfl rfl (bI_f h36) ?_
    refine JV.stk (len := 1) (sem := (s_push (.int 0))) (p2 := 44) rfl rfl rfl ?_
    refine JV.stk (len := 1) (sem := s_iadd) (p2 := 45) rfl rfl rfl ?_
    refine JV.puti (p2 := 48) rfl mm_M (Nat.le_of_ble_eq_true rfl) (mm_wM (k := 3) rfl) rfl ?_
    refine JV.ild (p2 := 49) rfl rfl rfl ?_
    subst hx
    exact JV.ret rfl (fun _ => rfl) rfl rfl
noncomputable def y_X7_clearText (m : Mem) : Mem × Int32 := ((x_X7_fine (up3 m 0 0 2 0) (m 0 0 2)).1, (x_X7_fine (up3 m 0 0 2 0) (m 0 0 2)).2)
theorem xe_X7_clearText : ∃ f, f = y_X7_clearText := ⟨y_X7_clearText, rfl⟩
noncomputable def x_X7_clearText := Classical.choose xe_X7_clearText
theorem x_X7_clearText_eq : x_X7_clearText = y_X7_clearText := Classical.choose_spec xe_X7_clearText
theorem ev_X7_clearText {d n c s b : Nat} {m : Mem} {M : JM}  {res : Mem × Int32} (hd : 2 ≤ d)  (hx : x_X7_clearText m = res) : Ev mtab mcode d 147 [.ref b] (n, c, s, mm b m M) (.inl (some (.int res.2))) (n, c, s, mm b res.1 M) := by
  obtain ⟨d, rfl⟩ : ∃ e, d = e + 1 := ⟨d - 1, by omega⟩
  rw [x_X7_clearText_eq] at hx
  unfold y_X7_clearText at hx
  refine jv_mk (m := mX7_clearText) (cd := jcX7_clearText) rfl rfl (Nat.le_of_ble_eq_true rfl) trivial ?_
  refine JV.ald (p2 := 1) rfl rfl rfl ?_
  refine JV.getf (p2 := 4) rfl mm_M rfl rfl ?_
  refine JV.ist (p2 := 5) rfl rfl rfl ?_
  refine JV.ald (p2 := 6) rfl rfl rfl ?_
  refine JV.stk (len := 1) (sem := (s_push (.int 0))) (p2 := 7) rfl rfl rfl ?_
  refine JV.puti (p2 := 10) rfl mm_M (Nat.le_of_ble_eq_true rfl) (mm_wM (k := 2) rfl) rfl ?_
  refine JV.ald (p2 := 11) rfl rfl rfl ?_
  refine JV.ild (p2 := 12) rfl rfl rfl ?_
  refine JV.invI (p2 := 15) rfl rfl rfl mm_M (Nat.le_of_ble_eq_true rfl) rfl (ev_X7_fine (by omega) rfl) ?_
  subst hx
  exact JV.ret rfl (fun _ => rfl) rfl rfl
noncomputable def y_X7_append (m : Mem) (p1 : Int32) : Mem × Int32 := (if (x_X7_in ((p1).toInt64) 0 127) = true then (if (m 0 0 2) = 90 then ((x_X7_throwing m 2).1, (x_X7_throwing m 2).2) else ((x_X7_fine (up3 (up3 m 5 0 (ix (m 0 0 2)) p1) 0 0 2 (((up3 m 5 0 (ix (m 0 0 2)) p1) 0 0 2) + 1)) ((up3 (up3 m 5 0 (ix (m 0 0 2)) p1) 0 0 2 (((up3 m 5 0 (ix (m 0 0 2)) p1) 0 0 2) + 1)) 0 0 2)).1, (x_X7_fine (up3 (up3 m 5 0 (ix (m 0 0 2)) p1) 0 0 2 (((up3 m 5 0 (ix (m 0 0 2)) p1) 0 0 2) + 1)) ((up3 (up3 m 5 0 (ix (m 0 0 2)) p1) 0 0 2 (((up3 m 5 0 (ix (m 0 0 2)) p1) 0 0 2) + 1)) 0 0 2)).2)) else ((x_X7_throwing m 1).1, (x_X7_throwing m 1).2))
theorem xe_X7_append : ∃ f, f = y_X7_append := ⟨y_X7_append, rfl⟩
noncomputable def x_X7_append := Classical.choose xe_X7_append
theorem x_X7_append_eq : x_X7_append = y_X7_append := Classical.choose_spec xe_X7_append
theorem ev_X7_append {d n c s b : Nat} {m : Mem} {M : JM} {p1 : Int32} {res : Mem × Int32} (hd : 2 ≤ d) (hT : VN 90 (m 0 0 2)) (hx : x_X7_append m p1 = res) : Ev mtab mcode d 146 [.ref b, .int p1] (n, c, s, mm b m M) (.inl (some (.int res.2))) (n, c, s, mm b res.1 M) := by
  obtain ⟨d, rfl⟩ : ∃ e, d = e + 1 := ⟨d - 1, by omega⟩
  rw [x_X7_append_eq] at hx
  unfold y_X7_append at hx
  refine jv_mk (m := mX7_append) (cd := jcX7_append) rfl rfl (Nat.le_of_ble_eq_true rfl) trivial ?_
  refine JV.ild (p2 := 1) rfl rfl rfl ?_
  refine JV.stk (len := 1) (sem := s_i2l) (p2 := 2) rfl rfl rfl ?_
  refine JV.stk (len := 1) (sem := (s_push (.long 0))) (p2 := 3) rfl rfl rfl ?_
  refine JV.ldc2 (p2 := 6) rfl rfl ?_
  refine JV.insI (p2 := 9) rfl (Nat.le_of_ble_eq_true rfl) rfl rfl (Nat.le_of_ble_eq_true rfl) rfl (ev_X7_in (by omega) rfl) rfl ?_
  by_cases h9 : (x_X7_in ((p1).toInt64) 0 127) = true
  · rw [if_pos h9] at hx
    refine JV.brT rfl rfl (bI_t h9) ?_
    refine JV.ald (p2 := 19) rfl rfl rfl ?_
    refine JV.getf (p2 := 22) rfl mm_M rfl rfl ?_
    refine JV.stk (len := 2) (sem := (s_push (.int 90))) (p2 := 24) rfl rfl rfl ?_
    by_cases h24 : (m 0 0 2) = 90
    · rw [if_pos h24] at hx
      refine JV.brF (p2 := 27) rfl rfl rfl (fun e => e h24) ?_
      refine JV.ald (p2 := 28) rfl rfl rfl ?_
      refine JV.stk (len := 1) (sem := (s_push (.int 2))) (p2 := 29) rfl rfl rfl ?_
      refine JV.invI (p2 := 32) rfl rfl rfl mm_M (Nat.le_of_ble_eq_true rfl) rfl (ev_X7_throwing (by omega) rfl) ?_
      subst hx
      exact JV.ret rfl (fun _ => rfl) rfl rfl
    · rw [if_neg h24] at hx
      refine JV.brT rfl rfl h24 ?_
      refine JV.ald (p2 := 34) rfl rfl rfl ?_
      refine JV.getf (p2 := 37) rfl mm_M rfl rfl ?_
      refine JV.ald (p2 := 38) rfl rfl rfl ?_
      refine JV.getf (p2 := 41) rfl mm_M rfl rfl ?_
      refine JV.ild (p2 := 42) rfl rfl rfl ?_
      refine JV.iast (p2 := 43) (j := (ix (m 0 0 2))) rfl mm_5 hT.1 (vn_90 hT h24) (by decide) (mm_w5 (k := (ix (m 0 0 2))) rfl) rfl ?_
      refine JV.ald (p2 := 44) rfl rfl rfl ?_
      refine JV.stk (len := 1) (sem := s_dup) (p2 := 45) rfl rfl rfl ?_
      refine JV.getf (p2 := 48) rfl mm_M rfl rfl ?_
      refine JV.stk (len := 1) (sem := (s_push (.int 1))) (p2 := 49) rfl rfl rfl ?_
      refine JV.stk (len := 1) (sem := s_iadd) (p2 := 50) rfl rfl rfl ?_
      refine JV.puti (p2 := 53) rfl mm_M (Nat.le_of_ble_eq_true rfl) (mm_wM (k := 2) rfl) rfl ?_
      refine JV.ald (p2 := 54) rfl rfl rfl ?_
      refine JV.ald (p2 := 55) rfl rfl rfl ?_
      refine JV.getf (p2 := 58) rfl mm_M rfl rfl ?_
      refine JV.invI (p2 := 61) rfl rfl rfl mm_M (Nat.le_of_ble_eq_true rfl) rfl (ev_X7_fine (by omega) rfl) ?_
      subst hx
      exact JV.ret rfl (fun _ => rfl) rfl rfl
  · rw [if_neg h9] at hx
    refine JV.brF (p2 := 12) rfl rfl rfl (fun e => e (bI_f h9)) ?_
    refine JV.ald (p2 := 13) rfl rfl rfl ?_
    refine JV.stk (len := 1) (sem := (s_push (.int 1))) (p2 := 14) rfl rfl rfl ?_
    refine JV.invI (p2 := 17) rfl rfl rfl mm_M (Nat.le_of_ble_eq_true rfl) rfl (ev_X7_throwing (by omega) rfl) ?_
    subst hx
    exact JV.ret rfl (fun _ => rfl) rfl rfl
noncomputable def y_X7_begin (m : Mem) (p1 : Int32) (p2 : Int32) : Mem × Int32 := (if (x_X7_in ((p1).toInt64) 1 6) = true then (if (x_X7_in ((p2).toInt64) 1 3) = true then ((x_X7_fine (x_X7_begins (x_X7_save m) p1 p2) ((x_X7_save m) 1 0 3)).1, (x_X7_fine (x_X7_begins (x_X7_save m) p1 p2) ((x_X7_save m) 1 0 3)).2) else ((x_X7_throwing m 1).1, (x_X7_throwing m 1).2)) else ((x_X7_throwing m 1).1, (x_X7_throwing m 1).2))
theorem xe_X7_begin : ∃ f, f = y_X7_begin := ⟨y_X7_begin, rfl⟩
noncomputable def x_X7_begin := Classical.choose xe_X7_begin
theorem x_X7_begin_eq : x_X7_begin = y_X7_begin := Classical.choose_spec xe_X7_begin
theorem ev_X7_begin {d n c s b : Nat} {m : Mem} {M : JM} {p1 : Int32} {p2 : Int32} {B : Nat} {m0 : Mem} {res : Mem × Int32} (hd : 4 ≤ d) (hW : MW B m0 m) (hB : B + 0 < 2147483648) (hs : VN 4 (m 0 0 0)) (hx : x_X7_begin m p1 p2 = res) : Ev mtab mcode d 103 [.ref b, .int p1, .int p2] (n, c, s, mm b m M) (.inl (some (.int res.2))) (n, c, s, mm b res.1 M) := by
  obtain ⟨d, rfl⟩ : ∃ e, d = e + 1 := ⟨d - 1, by omega⟩
  rw [x_X7_begin_eq] at hx
  unfold y_X7_begin at hx
  refine jv_mk (m := mX7_begin) (cd := jcX7_begin) rfl rfl (Nat.le_of_ble_eq_true rfl) trivial ?_
  refine JV.ild (p2 := 1) rfl rfl rfl ?_
  refine JV.stk (len := 1) (sem := s_i2l) (p2 := 2) rfl rfl rfl ?_
  refine JV.stk (len := 1) (sem := (s_push (.long 1))) (p2 := 3) rfl rfl rfl ?_
  refine JV.ldc2 (p2 := 6) rfl rfl ?_
  refine JV.insI (p2 := 9) rfl (Nat.le_of_ble_eq_true rfl) rfl rfl (Nat.le_of_ble_eq_true rfl) rfl (ev_X7_in (by omega) rfl) rfl ?_
  by_cases h9 : (x_X7_in ((p1).toInt64) 1 6) = true
  · rw [if_pos h9] at hx
    refine JV.brF (p2 := 12) rfl rfl rfl (bI_t h9) ?_
    refine JV.ild (p2 := 13) rfl rfl rfl ?_
    refine JV.stk (len := 1) (sem := s_i2l) (p2 := 14) rfl rfl rfl ?_
    refine JV.stk (len := 1) (sem := (s_push (.long 1))) (p2 := 15) rfl rfl rfl ?_
    refine JV.ldc2 (p2 := 18) rfl rfl ?_
    refine JV.insI (p2 := 21) rfl (Nat.le_of_ble_eq_true rfl) rfl rfl (Nat.le_of_ble_eq_true rfl) rfl (ev_X7_in (by omega) rfl) rfl ?_
    by_cases h21 : (x_X7_in ((p2).toInt64) 1 3) = true
    · rw [if_pos h21] at hx
      refine JV.brT rfl rfl (bI_t h21) ?_
      refine JV.ald (p2 := 31) rfl rfl rfl ?_
      refine JV.inv0 (p2 := 34) rfl rfl rfl mm_M (Nat.le_of_ble_eq_true rfl) rfl (ev_X7_save (by omega) hW (by omega) hs rfl) ?_
      refine JV.ald (p2 := 35) rfl rfl rfl ?_
      refine JV.getf (p2 := 38) rfl mm_M rfl rfl ?_
      refine JV.stk (len := 1) (sem := (s_push (.int 3))) (p2 := 39) rfl rfl rfl ?_
      refine JV.iald (p2 := 40) (j := 3) rfl mm_1 rfl (by omega) (by decide) rfl ?_
      refine JV.ist (p2 := 41) rfl rfl rfl ?_
      refine JV.ald (p2 := 42) rfl rfl rfl ?_
      refine JV.ild (p2 := 43) rfl rfl rfl ?_
      refine JV.ild (p2 := 44) rfl rfl rfl ?_
      refine JV.inv0 (p2 := 47) rfl rfl rfl mm_M (Nat.le_of_ble_eq_true rfl) rfl (ev_X7_begins (by omega) (fw_X7_save hW (by omega) hs) (by omega) (in_VN6 h9) (in_VN3 h21) rfl) ?_
      refine JV.ald (p2 := 48) rfl rfl rfl ?_
      refine JV.ild (p2 := 49) rfl rfl rfl ?_
      refine JV.invI (p2 := 52) rfl rfl rfl mm_M (Nat.le_of_ble_eq_true rfl) rfl (ev_X7_fine (by omega) rfl) ?_
      subst hx
      exact JV.ret rfl (fun _ => rfl) rfl rfl
    · rw [if_neg h21] at hx
      refine JV.brF (p2 := 24) rfl rfl rfl (fun e => e (bI_f h21)) ?_
      refine JV.ald (p2 := 25) rfl rfl rfl ?_
      refine JV.stk (len := 1) (sem := (s_push (.int 1))) (p2 := 26) rfl rfl rfl ?_
      refine JV.invI (p2 := 29) rfl rfl rfl mm_M (Nat.le_of_ble_eq_true rfl) rfl (ev_X7_throwing (by omega) rfl) ?_
      subst hx
      exact JV.ret rfl (fun _ => rfl) rfl rfl
  · rw [if_neg h9] at hx
    refine JV.brT rfl rfl (bI_f h9) ?_
    refine JV.ald (p2 := 25) rfl rfl rfl ?_
    refine JV.stk (len := 1) (sem := (s_push (.int 1))) (p2 := 26) rfl rfl rfl ?_
    refine JV.invI (p2 := 29) rfl rfl rfl mm_M (Nat.le_of_ble_eq_true rfl) rfl (ev_X7_throwing (by omega) rfl) ?_
    subst hx
    exact JV.ret rfl (fun _ => rfl) rfl rfl
