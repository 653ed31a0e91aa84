noncomputable def y_X0_tell (m : Mem) (i : Nat) (p1 : Int32) (p2 : Int32) (p3 : Int32) (p4 : Int32) : Mem := (up3 (up3 (up3 (up3 (up3 (up3 (up3 (up3 (up3 (up3 m 3 i 0 (p1 / 10)) 3 i 1 (p1 - p1 / 10 * 10)) 3 i 2 p2) 3 i 3 p3) 3 i 4 p4) 3 i 5 0) 3 i 6 (-1)) 3 i 7 (-1)) 3 i 8 0) 3 i 9 0)
theorem xe_X0_tell : ∃ f, f = y_X0_tell := ⟨y_X0_tell, rfl⟩
noncomputable def x_X0_tell := Classical.choose xe_X0_tell
theorem x_X0_tell_eq : x_X0_tell = y_X0_tell := Classical.choose_spec xe_X0_tell
theorem ev_X0_tell {d n c s b : Nat} {m : Mem} {M : JM} {i : Nat} {p1 : Int32} {p2 : Int32} {p3 : Int32} {p4 : Int32} {res : Mem} (hd : 1 ≤ d) (hi : i < 12) (hx : x_X0_tell m i p1 p2 p3 p4 = res) : Ev mtab mcode d 1 [.ref (b + 17 + i), .int p1, .int p2, .int p3, .int p4] (n, c, s, fm b m M) (.inl none) (n, c, s, fm b res M) := by
  obtain ⟨d, rfl⟩ : ∃ e, d = e + 1 := ⟨d - 1, by omega⟩
  rw [x_X0_tell_eq] at hx
  unfold y_X0_tell at hx
  refine jv_mk (m := mX0_tell) (cd := jcX0_tell) rfl rfl (Nat.le_of_ble_eq_true rfl) trivial ?_
  refine JV.ald (p2 := 1) rfl rfl rfl ?_
  refine JV.ild (p2 := 2) rfl rfl rfl ?_
  refine JV.stk (len := 2) (sem := (s_push (.int 10))) (p2 := 4) rfl rfl rfl ?_
  refine JV.stk (len := 1) (sem := s_idiv) (p2 := 5) rfl rfl rfl ?_
  refine JV.putA0 (p2 := 8) rfl (by omega) rfl ?_
  refine JV.ald (p2 := 9) rfl rfl rfl ?_
  refine JV.ild (p2 := 10) rfl rfl rfl ?_
  refine JV.stk (len := 2) (sem := (s_push (.int 10))) (p2 := 12) rfl rfl rfl ?_
  refine JV.stk (len := 1) (sem := s_irem) (p2 := 13) rfl rfl rfl ?_
  refine JV.putA1 (p2 := 16) rfl (by omega) rfl ?_
  refine JV.ald (p2 := 17) rfl rfl rfl ?_
  refine JV.ild (p2 := 18) rfl rfl rfl ?_
  refine JV.putA2 (p2 := 21) rfl (by omega) rfl ?_
  refine JV.ald (p2 := 22) rfl rfl rfl ?_
  refine JV.ild (p2 := 23) rfl rfl rfl ?_
  refine JV.putA3 (p2 := 26) rfl (by omega) rfl ?_
  refine JV.ald (p2 := 27) rfl rfl rfl ?_
  refine JV.ild (p2 := 29) rfl rfl rfl ?_
  refine JV.putA4 (p2 := 32) rfl (by omega) rfl ?_
  refine JV.ald (p2 := 33) rfl rfl rfl ?_
  refine JV.stk (len := 1) (sem := (s_push (.int 0))) (p2 := 34) rfl rfl rfl ?_
  refine JV.putA5 (p2 := 37) rfl (by omega) rfl ?_
  refine JV.ald (p2 := 38) rfl rfl rfl ?_
  refine JV.stk (len := 1) (sem := (s_push (.int (-1)))) (p2 := 39) rfl rfl rfl ?_
  refine JV.putA6 (p2 := 42) rfl (by omega) rfl ?_
  refine JV.ald (p2 := 43) rfl rfl rfl ?_
  refine JV.stk (len := 1) (sem := (s_push (.int (-1)))) (p2 := 44) rfl rfl rfl ?_
  refine JV.putA7 (p2 := 47) rfl (by omega) rfl ?_
  refine JV.ald (p2 := 48) rfl rfl rfl ?_
  refine JV.stk (len := 1) (sem := (s_push (.int 0))) (p2 := 49) rfl rfl rfl ?_
  refine JV.putA8 (p2 := 52) rfl (by omega) rfl ?_
  refine JV.ald (p2 := 53) rfl rfl rfl ?_
  refine JV.stk (len := 1) (sem := (s_push (.int 0))) (p2 := 54) rfl rfl rfl ?_
  refine JV.putA9 (p2 := 57) rfl (by omega) rfl ?_
  subst hx
  exact JV.ret rfl (fun _ => rfl) rfl rfl
noncomputable def y_X0_isOnStandOrBay (m : Mem) (i : Nat) : Bool := (if (m 3 i 5) = 1 then true else (if (m 3 i 5) = 2 then true else false))
theorem xe_X0_isOnStandOrBay : ∃ f, f = y_X0_isOnStandOrBay := ⟨y_X0_isOnStandOrBay, rfl⟩
noncomputable def x_X0_isOnStandOrBay := Classical.choose xe_X0_isOnStandOrBay
theorem x_X0_isOnStandOrBay_eq : x_X0_isOnStandOrBay = y_X0_isOnStandOrBay := Classical.choose_spec xe_X0_isOnStandOrBay
theorem ev_X0_isOnStandOrBay {d n c s b : Nat} {m : Mem} {M : JM} {i : Nat} {res : Bool} (hd : 1 ≤ d) (hi : i < 12) (hx : x_X0_isOnStandOrBay m i = res) : Ev mtab mcode d 3 [.ref (b + 17 + i)] (n, c, s, fm b m M) (.inl (some (.int (bI res)))) (n, c, s, fm b m M) := by
  obtain ⟨d, rfl⟩ : ∃ e, d = e + 1 := ⟨d - 1, by omega⟩
  rw [x_X0_isOnStandOrBay_eq] at hx
  unfold y_X0_isOnStandOrBay at hx
  refine jv_mk (m := mX0_isOnStandOrBay) (cd := jcX0_isOnStandOrBay) rfl rfl (Nat.le_of_ble_eq_true rfl) (bI_or _) ?_
  refine JV.ald (p2 := 1) rfl rfl rfl ?_
  refine JV.getA5 (p2 := 4) rfl (by omega) rfl ?_
  refine JV.stk (len := 1) (sem := (s_push (.int 1))) (p2 := 5) rfl rfl rfl ?_
  by_cases h5 : (m 3 i 5) = 1
  · rw [if_pos h5] at hx
    refine JV.brT rfl rfl h5 ?_
    refine JV.stk (len := 1) (sem := (s_push (.int 1))) (p2 := 17) rfl rfl rfl ?_
    refine JV.goto rfl ?_
    subst hx
    exact JV.ret rfl (fun _ => rfl) rfl rfl
  · rw [if_neg h5] at hx
    refine JV.brF (p2 := 8) rfl rfl rfl h5 ?_
    refine JV.ald (p2 := 9) rfl rfl rfl ?_
    refine JV.getA5 (p2 := 12) rfl (by omega) rfl ?_
    refine JV.stk (len := 1) (sem := (s_push (.int 2))) (p2 := 13) rfl rfl rfl ?_
    by_cases h13 : (m 3 i 5) = 2
    · rw [if_pos h13] at hx
      refine JV.brF (p2 := 16) rfl rfl rfl (fun e => e h13) ?_
      refine JV.stk (len := 1) (sem := (s_push (.int 1))) (p2 := 17) rfl rfl rfl ?_
      refine JV.goto rfl ?_
      subst hx
      exact JV.ret rfl (fun _ => rfl) rfl rfl
    · rw [if_neg h13] at hx
      refine JV.brT rfl rfl h13 ?_
      refine JV.stk (len := 1) (sem := (s_push (.int 0))) (p2 := 21) rfl rfl rfl ?_
      subst hx
      exact JV.ret rfl (fun _ => rfl) rfl rfl
noncomputable def y_X0_takeBuses (m : Mem) (i : Nat) : Mem := (up3 m 3 i 9 ((m 3 i 9) + ((((m 3 i 4) + 50) - 1) / 50)))
theorem xe_X0_takeBuses : ∃ f, f = y_X0_takeBuses := ⟨y_X0_takeBuses, rfl⟩
noncomputable def x_X0_takeBuses := Classical.choose xe_X0_takeBuses
theorem x_X0_takeBuses_eq : x_X0_takeBuses = y_X0_takeBuses := Classical.choose_spec xe_X0_takeBuses
theorem ev_X0_takeBuses {d n c s b : Nat} {m : Mem} {M : JM} {i : Nat} {res : Mem} (hd : 1 ≤ d) (hi : i < 12) (hx : x_X0_takeBuses m i = res) : Ev mtab mcode d 4 [.ref (b + 17 + i)] (n, c, s, fm b m M) (.inl none) (n, c, s, fm b res M) := by
  obtain ⟨d, rfl⟩ : ∃ e, d = e + 1 := ⟨d - 1, by omega⟩
  rw [x_X0_takeBuses_eq] at hx
  unfold y_X0_takeBuses at hx
  refine jv_mk (m := mX0_takeBuses) (cd := jcX0_takeBuses) rfl rfl (Nat.le_of_ble_eq_true rfl) trivial ?_
  refine JV.ald (p2 := 1) rfl rfl rfl ?_
  refine JV.stk (len := 1) (sem := s_dup) (p2 := 2) rfl rfl rfl ?_
  refine JV.getA9 (p2 := 5) rfl (by omega) rfl ?_
  refine JV.ald (p2 := 6) rfl rfl rfl ?_
  refine JV.getA4 (p2 := 9) rfl (by omega) rfl ?_
  refine JV.stk (len := 2) (sem := (s_push (.int 50))) (p2 := 11) rfl rfl rfl ?_
  refine JV.stk (len := 1) (sem := s_iadd) (p2 := 12) rfl rfl rfl ?_
  refine JV.stk (len := 1) (sem := (s_push (.int 1))) (p2 := 13) rfl rfl rfl ?_
  refine JV.stk (len := 1) (sem := s_isub) (p2 := 14) rfl rfl rfl ?_
  refine JV.stk (len := 2) (sem := (s_push (.int 50))) (p2 := 16) rfl rfl rfl ?_
  refine JV.stk (len := 1) (sem := s_idiv) (p2 := 17) rfl rfl rfl ?_
  refine JV.stk (len := 1) (sem := s_iadd) (p2 := 18) rfl rfl rfl ?_
  refine JV.putA9 (p2 := 21) rfl (by omega) rfl ?_
  subst hx
  exact JV.ret rfl (fun _ => rfl) rfl rfl
noncomputable def y_X0_answer (m : Mem) (i : Nat) (p1 : Int32) : Int32 := (if p1 = 0 then (m 3 i 0) else (if p1 = 1 then (m 3 i 1) else (if p1 = 2 then (m 3 i 2) else (if p1 = 3 then (m 3 i 3) else (if p1 = 4 then (m 3 i 4) else (if p1 = 5 then (m 3 i 5) else (if p1 = 6 then (m 3 i 6) else (if p1 = 7 then (m 3 i 7) else (if p1 = 8 then (m 3 i 8) else (m 3 i 9))))))))))
theorem xe_X0_answer : ∃ f, f = y_X0_answer := ⟨y_X0_answer, rfl⟩
noncomputable def x_X0_answer := Classical.choose xe_X0_answer
theorem x_X0_answer_eq : x_X0_answer = y_X0_answer := Classical.choose_spec xe_X0_answer
theorem ev_X0_answer {d n c s b : Nat} {m : Mem} {M : JM} {i : Nat} {p1 : Int32} {res : Int32} (hd : 1 ≤ d) (hi : i < 12) (hx : x_X0_answer m i p1 = res) : Ev mtab mcode d 5 [.ref (b + 17 + i), .int p1] (n, c, s, fm b m M) (.inl (some (.int res))) (n, c, s, fm b m M) := by
  obtain ⟨d, rfl⟩ : ∃ e, d = e + 1 := ⟨d - 1, by omega⟩
  rw [x_X0_answer_eq] at hx
  unfold y_X0_answer at hx
  refine jv_mk (m := mX0_answer) (cd := jcX0_answer) rfl rfl (Nat.le_of_ble_eq_true rfl) trivial ?_
  refine JV.ild (p2 := 1) rfl rfl rfl ?_
  by_cases h1_0 : p1 = 0
  · rw [if_pos h1_0] at hx
    refine JV.sw rfl (by rw [h1_0]) ?_
    refine JV.ald (p2 := 53) rfl rfl rfl ?_
    refine JV.getA0 (p2 := 56) rfl (by omega) rfl ?_
    subst hx
    exact JV.ret rfl (fun _ => rfl) rfl rfl
  rw [if_neg h1_0] at hx
  by_cases h1_1 : p1 = 1
  · rw [if_pos h1_1] at hx
    refine JV.sw rfl (by rw [h1_1]) ?_
    refine JV.ald (p2 := 58) rfl rfl rfl ?_
    refine JV.getA1 (p2 := 61) rfl (by omega) rfl ?_
    subst hx
    exact JV.ret rfl (fun _ => rfl) rfl rfl
  rw [if_neg h1_1] at hx
  by_cases h1_2 : p1 = 2
  · rw [if_pos h1_2] at hx
    refine JV.sw rfl (by rw [h1_2]) ?_
    refine JV.ald (p2 := 63) rfl rfl rfl ?_
    refine JV.getA2 (p2 := 66) rfl (by omega) rfl ?_
    subst hx
    exact JV.ret rfl (fun _ => rfl) rfl rfl
  rw [if_neg h1_2] at hx
  by_cases h1_3 : p1 = 3
  · rw [if_pos h1_3] at hx
    refine JV.sw rfl (by rw [h1_3]) ?_
    refine JV.ald (p2 := 68) rfl rfl rfl ?_
    refine JV.getA3 (p2 := 71) rfl (by omega) rfl ?_
    subst hx
    exact JV.ret rfl (fun _ => rfl) rfl rfl
  rw [if_neg h1_3] at hx
  by_cases h1_4 : p1 = 4
  · rw [if_pos h1_4] at hx
    refine JV.sw rfl (by rw [h1_4]) ?_
    refine JV.ald (p2 := 73) rfl rfl rfl ?_
    refine JV.getA4 (p2 := 76) rfl (by omega) rfl ?_
    subst hx
    exact JV.ret rfl (fun _ => rfl) rfl rfl
  rw [if_neg h1_4] at hx
  by_cases h1_5 : p1 = 5
  · rw [if_pos h1_5] at hx
    refine JV.sw rfl (by rw [h1_5]) ?_
    refine JV.ald (p2 := 78) rfl rfl rfl ?_
    refine JV.getA5 (p2 := 81) rfl (by omega) rfl ?_
    subst hx
    exact JV.ret rfl (fun _ => rfl) rfl rfl
  rw [if_neg h1_5] at hx
  by_cases h1_6 : p1 = 6
  · rw [if_pos h1_6] at hx
    refine JV.sw rfl (by rw [h1_6]) ?_
    refine JV.ald (p2 := 83) rfl rfl rfl ?_
    refine JV.getA6 (p2 := 86) rfl (by omega) rfl ?_
    subst hx
    exact JV.ret rfl (fun _ => rfl) rfl rfl
  rw [if_neg h1_6] at hx
  by_cases h1_7 : p1 = 7
  · rw [if_pos h1_7] at hx
    refine JV.sw rfl (by rw [h1_7]) ?_
    refine JV.ald (p2 := 88) rfl rfl rfl ?_
    refine JV.getA7 (p2 := 91) rfl (by omega) rfl ?_
    subst hx
    exact JV.ret rfl (fun _ => rfl) rfl rfl
  rw [if_neg h1_7] at hx
  by_cases h1_8 : p1 = 8
  · rw [if_pos h1_8] at hx
    refine JV.sw rfl (by rw [h1_8]) ?_
    refine JV.ald (p2 := 93) rfl rfl rfl ?_
    refine JV.getA8 (p2 := 96) rfl (by omega) rfl ?_
    subst hx
    exact JV.ret rfl (fun _ => rfl) rfl rfl
  rw [if_neg h1_8] at hx
  refine JV.sw rfl (sw_out (fun i hi => match i, hi with | 0, _ => Or.inl h1_0 | 1, _ => Or.inl h1_1 | 2, _ => Or.inl h1_2 | 3, _ => Or.inl h1_3 | 4, _ => Or.inl h1_4 | 5, _ => Or.inl h1_5 | 6, _ => Or.inl h1_6 | 7, _ => Or.inl h1_7 | 8, _ => Or.inl h1_8 | (n + 9), hi => absurd hi (by simp))) ?_
  refine JV.ald (p2 := 98) rfl rfl rfl ?_
  refine JV.getA9 (p2 := 101) rfl (by omega) rfl ?_
  subst hx
  exact JV.ret rfl (fun _ => rfl) rfl rfl
noncomputable def y_X3_restart (m : Mem) (i : Nat) : Mem := (up3 (up3 m 1 i 1 (-1)) 1 i 2 0)
theorem xe_X3_restart : ∃ f, f = y_X3_restart := ⟨y_X3_restart, rfl⟩
noncomputable def x_X3_restart := Classical.choose xe_X3_restart
theorem x_X3_restart_eq : x_X3_restart = y_X3_restart := Classical.choose_spec xe_X3_restart
theorem ev_X3_restart {d n c s b : Nat} {m : Mem} {M : JM} {i : Nat} {res : Mem} (hd : 1 ≤ d) (hi : i < 6) (hx : x_X3_restart m i = res) : Ev mtab mcode d 45 [.ref (b + 8 + i)] (n, c, s, fm b m M) (.inl none) (n, c, s, fm b res M) := by
  obtain ⟨d, rfl⟩ : ∃ e, d = e + 1 := ⟨d - 1, by omega⟩
  rw [x_X3_restart_eq] at hx
  unfold y_X3_restart at hx
  refine jv_mk (m := mX3_restart) (cd := jcX3_restart) rfl rfl (Nat.le_of_ble_eq_true rfl) trivial ?_
  refine JV.ald (p2 := 1) rfl rfl rfl ?_
  refine JV.stk (len := 1) (sem := (s_push (.int (-1)))) (p2 := 2) rfl rfl rfl ?_
  refine JV.putS1 (p2 := 5) rfl (by omega) rfl ?_
  refine JV.ald (p2 := 6) rfl rfl rfl ?_
  refine JV.stk (len := 1) (sem := (s_push (.int 0))) (p2 := 7) rfl rfl rfl ?_
  refine JV.putS2 (p2 := 10) rfl (by omega) rfl ?_
  subst hx
  exact JV.ret rfl (fun _ => rfl) rfl rfl
noncomputable def y_X5_restart (m : Mem) (i : Nat) : Mem := (up3 (up3 (up3 (up3 m 2 i 1 (-1)) 2 i 2 0) 2 i 3 0) 2 i 4 0)
theorem xe_X5_restart : ∃ f, f = y_X5_restart := ⟨y_X5_restart, rfl⟩
noncomputable def x_X5_restart := Classical.choose xe_X5_restart
theorem x_X5_restart_eq : x_X5_restart = y_X5_restart := Classical.choose_spec xe_X5_restart
theorem ev_X5_restart {d n c s b : Nat} {m : Mem} {M : JM} {i : Nat} {res : Mem} (hd : 1 ≤ d) (hi : i < 3) (hx : x_X5_restart m i = res) : Ev mtab mcode d 57 [.ref (b + 14 + i)] (n, c, s, fm b m M) (.inl none) (n, c, s, fm b res M) := by
  obtain ⟨d, rfl⟩ : ∃ e, d = e + 1 := ⟨d - 1, by omega⟩
  rw [x_X5_restart_eq] at hx
  unfold y_X5_restart at hx
  refine jv_mk (m := mX5_restart) (cd := jcX5_restart) rfl rfl (Nat.le_of_ble_eq_true rfl) trivial ?_
  refine JV.ald (p2 := 1) rfl rfl rfl ?_
  refine JV.stk (len := 1) (sem := (s_push (.int (-1)))) (p2 := 2) rfl rfl rfl ?_
  refine JV.putT1 (p2 := 5) rfl (by omega) rfl ?_
  refine JV.ald (p2 := 6) rfl rfl rfl ?_
  refine JV.stk (len := 1) (sem := (s_push (.int 0))) (p2 := 7) rfl rfl rfl ?_
  refine JV.putT2 (p2 := 10) rfl (by omega) rfl ?_
  refine JV.ald (p2 := 11) rfl rfl rfl ?_
  refine JV.stk (len := 1) (sem := (s_push (.int 0))) (p2 := 12) rfl rfl rfl ?_
  refine JV.putT3 (p2 := 15) rfl (by omega) rfl ?_
  refine JV.ald (p2 := 16) rfl rfl rfl ?_
  refine JV.stk (len := 1) (sem := (s_push (.int 0))) (p2 := 17) rfl rfl rfl ?_
  refine JV.putT4 (p2 := 20) rfl (by omega) rfl ?_
  subst hx
  exact JV.ret rfl (fun _ => rfl) rfl rfl
noncomputable def y_X5_take (m : Mem) (i : Nat) (p1 : Int32) (p2 : Int32) : Mem := (up3 (up3 m 2 i 1 p1) 2 i 2 p2)
theorem xe_X5_take : ∃ f, f = y_X5_take := ⟨y_X5_take, rfl⟩
noncomputable def x_X5_take := Classical.choose xe_X5_take
theorem x_X5_take_eq : x_X5_take = y_X5_take := Classical.choose_spec xe_X5_take
theorem ev_X5_take {d n c s b : Nat} {m : Mem} {M : JM} {i : Nat} {p1 : Int32} {p2 : Int32} {res : Mem} (hd : 1 ≤ d) (hi : i < 3) (hx : x_X5_take m i p1 p2 = res) : Ev mtab mcode d 59 [.ref (b + 14 + i), .int p1, .int p2] (n, c, s, fm b m M) (.inl none) (n, c, s, fm b res M) := by
  obtain ⟨d, rfl⟩ : ∃ e, d = e + 1 := ⟨d - 1, by omega⟩
  rw [x_X5_take_eq] at hx
  unfold y_X5_take at hx
  refine jv_mk (m := mX5_take) (cd := jcX5_take) rfl rfl (Nat.le_of_ble_eq_true rfl) trivial ?_
  refine JV.ald (p2 := 1) rfl rfl rfl ?_
  refine JV.ild (p2 := 2) rfl rfl rfl ?_
  refine JV.putT1 (p2 := 5) rfl (by omega) rfl ?_
  refine JV.ald (p2 := 6) rfl rfl rfl ?_
  refine JV.ild (p2 := 7) rfl rfl rfl ?_
  refine JV.putT2 (p2 := 10) rfl (by omega) rfl ?_
  subst hx
  exact JV.ret rfl (fun _ => rfl) rfl rfl
noncomputable def y_X5_answer (m : Mem) (i : Nat) (p1 : Int32) : Int32 := (if p1 = 0 then (m 2 i 0) else (if p1 = 1 then (m 2 i 1) else (if p1 = 2 then (m 2 i 2) else (if p1 = 3 then (m 2 i 3) else (m 2 i 4)))))
theorem xe_X5_answer : ∃ f, f = y_X5_answer := ⟨y_X5_answer, rfl⟩
noncomputable def x_X5_answer := Classical.choose xe_X5_answer
theorem x_X5_answer_eq : x_X5_answer = y_X5_answer := Classical.choose_spec xe_X5_answer
theorem ev_X5_answer {d n c s b : Nat} {m : Mem} {M : JM} {i : Nat} {p1 : Int32} {res : Int32} (hd : 1 ≤ d) (hi : i < 3) (hx : x_X5_answer m i p1 = res) : Ev mtab mcode d 60 [.ref (b + 14 + i), .int p1] (n, c, s, fm b m M) (.inl (some (.int res))) (n, c, s, fm b m M) := by
  obtain ⟨d, rfl⟩ : ∃ e, d = e + 1 := ⟨d - 1, by omega⟩
  rw [x_X5_answer_eq] at hx
  unfold y_X5_answer at hx
  refine jv_mk (m := mX5_answer) (cd := jcX5_answer) rfl rfl (Nat.le_of_ble_eq_true rfl) trivial ?_
  refine JV.ild (p2 := 1) rfl rfl rfl ?_
  by_cases h1_0 : p1 = 0
  · rw [if_pos h1_0] at hx
    refine JV.sw rfl (by rw [h1_0]) ?_
    refine JV.ald (p2 := 33) rfl rfl rfl ?_
    refine JV.getT0 (p2 := 36) rfl (by omega) rfl ?_
    subst hx
    exact JV.ret rfl (fun _ => rfl) rfl rfl
  rw [if_neg h1_0] at hx
  by_cases h1_1 : p1 = 1
  · rw [if_pos h1_1] at hx
    refine JV.sw rfl (by rw [h1_1]) ?_
    refine JV.ald (p2 := 38) rfl rfl rfl ?_
    refine JV.getT1 (p2 := 41) rfl (by omega) rfl ?_
    subst hx
    exact JV.ret rfl (fun _ => rfl) rfl rfl
  rw [if_neg h1_1] at hx
  by_cases h1_2 : p1 = 2
  · rw [if_pos h1_2] at hx
    refine JV.sw rfl (by rw [h1_2]) ?_
    refine JV.ald (p2 := 43) rfl rfl rfl ?_
    refine JV.getT2 (p2 := 46) rfl (by omega) rfl ?_
    subst hx
    exact JV.ret rfl (fun _ => rfl) rfl rfl
  rw [if_neg h1_2] at hx
  by_cases h1_3 : p1 = 3
  · rw [if_pos h1_3] at hx
    refine JV.sw rfl (by rw [h1_3]) ?_
    refine JV.ald (p2 := 48) rfl rfl rfl ?_
    refine JV.getT3 (p2 := 51) rfl (by omega) rfl ?_
    subst hx
    exact JV.ret rfl (fun _ => rfl) rfl rfl
  rw [if_neg h1_3] at hx
  refine JV.sw rfl (sw_out (fun i hi => match i, hi with | 0, _ => Or.inl h1_0 | 1, _ => Or.inl h1_1 | 2, _ => Or.inl h1_2 | 3, _ => Or.inl h1_3 | (n + 4), hi => absurd hi (by simp))) ?_
  refine JV.ald (p2 := 53) rfl rfl rfl ?_
  refine JV.getT4 (p2 := 56) rfl (by omega) rfl ?_
  subst hx
  exact JV.ret rfl (fun _ => rfl) rfl rfl
noncomputable def y_X2_kept (m : Mem) : Int32 := (if 30 < (m 4 0 0) then 30 else (m 4 0 0))
theorem xe_X2_kept : ∃ f, f = y_X2_kept := ⟨y_X2_kept, rfl⟩
noncomputable def x_X2_kept := Classical.choose xe_X2_kept
theorem x_X2_kept_eq : x_X2_kept = y_X2_kept := Classical.choose_spec xe_X2_kept
theorem ev_X2_kept {d n c s b : Nat} {m : Mem} {M : JM}  {res : Int32} (hd : 1 ≤ d)  (hx : x_X2_kept m = res) : Ev mtab mcode d 41 [.ref (b + 4)] (n, c, s, fm b m M) (.inl (some (.int res))) (n, c, s, fm b m M) := by
  obtain ⟨d, rfl⟩ : ∃ e, d = e + 1 := ⟨d - 1, by omega⟩
  rw [x_X2_kept_eq] at hx
  unfold y_X2_kept at hx
  refine jv_mk (m := mX2_kept) (cd := jcX2_kept) rfl rfl (Nat.le_of_ble_eq_true rfl) trivial ?_
  refine JV.ald (p2 := 1) rfl rfl rfl ?_
  refine JV.getL0 (p2 := 4) rfl rfl ?_
  refine JV.stk (len := 2) (sem := (s_push (.int 30))) (p2 := 6) rfl rfl rfl ?_
  refine JV.mmin (p2 := 9) rfl (Nat.le_of_ble_eq_true rfl) rfl ?_
  subst hx
  exact JV.ret rfl (fun _ => rfl) rfl rfl
