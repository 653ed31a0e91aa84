theorem out_VN {x a c : Int32} {k : Nat} (ha : ¬ a < 0) (hc : c.toInt = k) (hk : k < 2 ^ 31) (h : ¬ x_X6_isOutside x a c = true) : VN k x := by
  obtain ⟨h1, h2⟩ := out_of h
  obtain ⟨j, hj, e⟩ := nI_of2 (x := x) (M := c) (n := k) hc (fun q => h1 (by
    rw [Int32.lt_iff_toInt_lt] at q ha ⊢
    have z : (0 : Int32).toInt = 0 := by decide
    omega)) (by
    rw [Int32.lt_iff_toInt_lt] at h2
    rw [Int32.le_iff_toInt_le]
    omega)
  subst e
  unfold VN
  rw [ix_nI (by omega)]
  exact ⟨rfl, hj⟩
theorem has_lt {x y : Int32} {k : Nat} (hy : VN k y) (hk : k < 2 ^ 31) (h0 : ¬ x < 0) (h1 : x < y) : x = nI (ix x) ∧ ix x < ix y := by
  have e := ix_eq h0
  refine ⟨e, ?_⟩
  obtain ⟨j, hj, e2⟩ := nI_of h0
  have b := hy.2
  rw [e2, hy.1, nI_ltI hj (by omega)] at h1
  rw [e2, ix_nI hj]
  exact h1
theorem has_S {m : Mem} {x : Int32} (hF : FK m) (h : x_X1_hasStand m x = true) : x = nI (ix x) ∧ ix x < ix (m 0 0 0) := by
  rw [x_X1_hasStand_eq] at h
  unfold y_X1_hasStand at h
  split at h
  · cases h
  · split at h
    · exact has_lt hF.ns (by decide) (by assumption) (by assumption)
    · cases h
theorem has_T {m : Mem} {x : Int32} (hF : FK m) (h : x_X1_hasTug m x = true) : x = nI (ix x) ∧ ix x < ix (m 0 0 1) := by
  rw [x_X1_hasTug_eq] at h
  unfold y_X1_hasTug at h
  split at h
  · cases h
  · split at h
    · exact has_lt hF.nt (by decide) (by assumption) (by assumption)
    · cases h
theorem has_A {m : Mem} {x : Int32} (hF : FK m) (h : x_X1_hasAircraft m x = true) : x = nI (ix x) ∧ ix x < ix (m 0 0 2) := by
  rw [x_X1_hasAircraft_eq] at h
  unfold y_X1_hasAircraft at h
  split at h
  · cases h
  · split at h
    · exact has_lt hF.na (by decide) (by assumption) (by assumption)
    · cases h
theorem vn_min {B : Nat} {x : Int32} (h : VN B x) (hB : B < 2 ^ 31) : (if 30 < x then 30 else x) = nI (min (ix x) 30) := by
  have b := h.2
  have e30 : (30 : Int32) = nI 30 := rfl
  by_cases g : 30 < x
  · rw [if_pos g]
    rw [h.1, e30, nI_ltI (by decide) (by omega)] at g
    rw [Nat.min_eq_right (by omega)]
    rfl
  · rw [if_neg g]
    rw [h.1, e30, nI_ltI (by decide) (by omega)] at g
    rw [Nat.min_eq_left (by omega)]
    exact h.1
theorem kept_n {m : Mem} {B : Nat} (hv : VN B (m 4 0 0)) (hB : B < 2 ^ 31) : x_X2_kept m = nI (min (ix (m 4 0 0)) 30) := by
  rw [x_X2_kept_eq]
  exact vn_min hv hB
theorem ev_hi {m : Mem} {B : Nat} {x : Int32} (hv : VN B (m 4 0 0)) (hB : B < 2147483648) (h : ¬ x_X6_isOutside x 0 (x_X2_kept m - 1) = true) : ¬ m 4 0 0 - 1 - x < 0 := by
  obtain ⟨h1, h2⟩ := out_of h
  rw [kept_n hv hB] at h2
  obtain ⟨j, hj, e⟩ := nI_of h1
  subst e
  have b := hv.2
  have t0 : 1 ≤ min (ix (m 4 0 0)) 30 := by
    rcases Nat.eq_zero_or_pos (min (ix (m 4 0 0)) 30) with z | z
    · exfalso
      rw [z] at h2
      refine h2 ?_
      rw [Int32.lt_iff_toInt_lt, nI_toInt hj]
      have : (nI 0 - 1).toInt = -1 := by decide
      omega
    · exact z
  have e1 : nI (min (ix (m 4 0 0)) 30) - 1 = nI (min (ix (m 4 0 0)) 30 - 1) := pk_sub (b := 1) t0
  rw [e1, nI_ltI (by omega) hj] at h2
  rw [hv.1, show nI (ix (m 4 0 0)) - 1 = nI (ix (m 4 0 0) - 1) from pk_sub (b := 1) (by omega), pk_sub (by omega)]
  exact nI_pos (by omega)
/-- the trial, copied anew -/
theorem sk_cp {B : Nat} {S : Sys} (h : SK B S) : FW B (S 1) (x_X1_copyFrom (S 2) (S 1)) := fw_copy h.f2 h.f1 (h.2.2.1 1 (by decide) (by decide)).2
theorem fk_add {m : Mem} {p1 p2 p3 p4 : Int32} (h : FK m) : FK (x_X1_add m p1 p2 p3 p4) := by
  rw [x_X1_add_eq]
  unfold y_X1_add
  split
  · rename_i g
    have b := ix_ltL (n := 12) h.na g (by decide) (by decide)
    have ht : FK (x_X0_tell m (ix (m 0 0 2)) p1 p2 p3 p4) := by
      rw [x_X0_tell_eq]
      unfold y_X0_tell
      exact ((((FK.upA (((((h.up rfl).up rfl).up rfl).up rfl).up rfl |>.up rfl) (Or.inl rfl)).up rfl).up rfl).up rfl)
    have e2 : x_X0_tell m (ix (m 0 0 2)) p1 p2 p3 p4 0 = m 0 := by
      rw [x_X0_tell_eq]
      unfold y_X0_tell
      repeat rw [up3_fam (by decide)]
    have hv : VN 12 (x_X0_tell m (ix (m 0 0 2)) p1 p2 p3 p4 0 0 2 + 1) := by
      rw [e2]
      exact vn_lt12 h.na b
    refine ⟨?_, ?_, ?_, fun j hj => ?_, fun j hj => ?_, fun j hj => ?_⟩
    · rw [up3_ne (by decide)]; exact ht.ns
    · rw [up3_ne (by decide)]; exact ht.nt
    · rw [up3_self]; exact hv
    · rw [up3_ne (by simp)]; exact ht.st hj
    · rw [up3_ne (by simp)]; exact ht.tu hj
    · rw [up3_ne (by simp)]; exact ht.ac hj
  · exact h
theorem fw_addTug {B : Nat} {m0 m : Mem} {p1 : Int32} (h : FW B m0 m) : FW B (x_X1_addTug m p1) (x_X1_addTug m p1) := by
  rw [x_X1_addTug_eq]
  unfold y_X1_addTug
  split
  · rename_i g
    have b := ix_ltL (n := 3) h.1.nt g (by decide) (by decide)
    have w : FW B m0 (x_X5_restart (up3 m 2 (ix (m 0 0 1)) 0 p1) (ix (m 0 0 1))) := fw_X5_restart (h.up rfl)
    have hv : VN 3 (x_X5_restart (up3 m 2 (ix (m 0 0 1)) 0 p1) (ix (m 0 0 1)) 0 0 1 + 1) := by
      rw [w.2.2 1 (by decide), ← h.2.2 1 (by decide)]
      have e : m 0 0 1 + 1 = nI (ix (m 0 0 1) + 1) := by rw [← nI_1, ← h.1.nt.1]
      unfold VN
      rw [e, ix_nI (by omega)]
      exact ⟨rfl, by omega⟩
    refine ⟨⟨?_, ?_, ?_, fun j hj => ?_, fun j hj => ?_, fun j hj => ?_⟩, ?_, fun _ _ => rfl⟩
    · rw [up3_ne (by decide)]; exact w.1.ns
    · rw [up3_self]; exact hv
    · rw [up3_ne (by decide)]; exact w.1.na
    · rw [up3_ne (by simp)]; exact w.1.st hj
    · rw [up3_ne (by simp)]; exact w.1.tu hj
    · rw [up3_ne (by simp)]; exact w.1.ac hj
    · rw [up3_ne (by decide)]; exact w.2.1
  · exact ⟨h.1, h.2.1, fun _ _ => rfl⟩
noncomputable def y_X6_begin (m : Sys) (p1 : Int32) (p2 : Int32) : Sys × (Int32 ⊕ String) := (if (x_X6_isOutside p1 1 6) = true then (m, (Sum.inr "java/lang/IllegalArgumentException" : Int32 ⊕ String)) else (if (x_X6_isOutside p2 1 3) = true then (m, (Sum.inr "java/lang/IllegalArgumentException" : Int32 ⊕ String)) else ((us (x_X6_save m) 1 (x_X1_build ((x_X6_save m) 1) p1 p2)), (Sum.inl (m 1 0 0 3) : Int32 ⊕ String))))
theorem xe_X6_begin : ∃ f, f = y_X6_begin := ⟨y_X6_begin, rfl⟩
noncomputable def x_X6_begin := Classical.choose xe_X6_begin
theorem x_X6_begin_eq : x_X6_begin = y_X6_begin := Classical.choose_spec xe_X6_begin
theorem ev_X6_begin {bb : Nat} {d n c s : Nat} {m : Sys} {M : JM} {p1 : Int32} {p2 : Int32} {B : Nat} {res : Sys × (Int32 ⊕ String)} (hd : 6 ≤ d) (hK : SK B m) (hB : B + 0 < 2147483648)  (hx : x_X6_begin m p1 p2 = res) : Ev mtab mcode d 62 [.ref (bb + 1), .int p1, .int p2] (n, c, s, sy bb m M) (jO res.2) (jH res.2 (n, c, s, sy bb m M) (n, c, s, sy bb res.1 M)) := by
  obtain ⟨d, rfl⟩ : ∃ e, d = e + 1 := ⟨d - 1, by omega⟩
  rw [x_X6_begin_eq] at hx
  unfold y_X6_begin at hx
  refine jv_mkS (m := mX6_begin) (cd := jcX6_begin) rfl rfl (Nat.le_of_ble_eq_true rfl) (fun _ => trivial) (by omega) rfl ?_
  refine JV.ild (p2 := 1) rfl rfl rfl ?_
  refine JV.stk (len := 1) (sem := (s_push (.int 1))) (p2 := 2) rfl rfl rfl ?_
  refine JV.stk (len := 2) (sem := (s_push (.int 6))) (p2 := 4) rfl rfl rfl ?_
  refine JV.insI (p2 := 7) rfl (Nat.le_of_ble_eq_true rfl) rfl rfl (Nat.le_of_ble_eq_true rfl) rfl (ev_X6_isOutside (by omega) rfl) rfl ?_
  by_cases h7 : (x_X6_isOutside p1 1 6) = true
  · rw [if_pos h7] at hx
    refine JV.brT rfl rfl (bI_t h7) ?_
    subst hx
    exact JV.thr rfl (Nat.le_of_ble_eq_true rfl)
  · rw [if_neg h7] at hx
    refine JV.brF (p2 := 10) rfl rfl rfl (fun e => e (bI_f h7)) ?_
    refine JV.ild (p2 := 11) rfl rfl rfl ?_
    refine JV.stk (len := 1) (sem := (s_push (.int 1))) (p2 := 12) rfl rfl rfl ?_
    refine JV.stk (len := 1) (sem := (s_push (.int 3))) (p2 := 13) rfl rfl rfl ?_
    refine JV.insI (p2 := 16) rfl (Nat.le_of_ble_eq_true rfl) rfl rfl (Nat.le_of_ble_eq_true rfl) rfl (ev_X6_isOutside (by omega) rfl) rfl ?_
    by_cases h16 : (x_X6_isOutside p2 1 3) = true
    · rw [if_pos h16] at hx
      refine JV.brF (p2 := 19) rfl rfl rfl (bI_t h16) ?_
      subst hx
      exact JV.thr rfl (Nat.le_of_ble_eq_true rfl)
    · rw [if_neg h16] at hx
      refine JV.brT rfl rfl (bI_f h16) ?_
      refine JV.ald (p2 := 30) rfl rfl rfl ?_
      refine JV.getf (p2 := 33) rfl sy_X rfl rfl ?_
      refine JV.getf (p2 := 36) rfl sy1_F rfl rfl ?_
      refine JV.ist (p2 := 37) rfl rfl rfl ?_
      refine JV.ald (p2 := 38) rfl rfl rfl ?_
      refine JV.inv0 (p2 := 41) rfl rfl rfl sy_X (Nat.le_of_ble_eq_true rfl) rfl (ev_X6_save (by omega) hK rfl) ?_
      refine JV.ald (p2 := 42) rfl rfl rfl ?_
      refine JV.getf (p2 := 45) rfl sy_X rfl rfl ?_
      refine JV.ild (p2 := 46) rfl rfl rfl ?_
      refine JV.ild (p2 := 47) rfl rfl rfl ?_
      refine JV.inv0 (p2 := 50) rfl rfl rfl sy1_F (Nat.le_of_ble_eq_true rfl) rfl (sy1_ev (ev_X1_build (by omega) (sk_save hK).w1 (by omega) (out_VN (by decide) (by decide) (by decide) h7) (out_VN (by decide) (by decide) (by decide) h16) rfl)) ?_
      refine JV.ild (p2 := 51) rfl rfl rfl ?_
      subst hx
      exact JV.ret rfl (fun _ => rfl) rfl rfl
noncomputable def y_X6_setSpan (m : Sys) (p1 : Int32) (p2 : Int32) : Sys × (Int32 ⊕ String) := (if (x_X1_hasStand (m 1) p1) = true then (if (x_X6_isOutside p2 1 4) = true then (m, (Sum.inr "java/lang/IllegalArgumentException" : Int32 ⊕ String)) else ((us (x_X6_save m) 1 (up3 ((x_X6_save m) 1) 1 (ix p1) 0 p2)), (Sum.inl (m 1 1 (ix p1) 0) : Int32 ⊕ String))) else (m, (Sum.inr "java/lang/IndexOutOfBoundsException" : Int32 ⊕ String)))
theorem xe_X6_setSpan : ∃ f, f = y_X6_setSpan := ⟨y_X6_setSpan, rfl⟩
noncomputable def x_X6_setSpan := Classical.choose xe_X6_setSpan
theorem x_X6_setSpan_eq : x_X6_setSpan = y_X6_setSpan := Classical.choose_spec xe_X6_setSpan
theorem ev_X6_setSpan {bb : Nat} {d n c s : Nat} {m : Sys} {M : JM} {p1 : Int32} {p2 : Int32} {B : Nat} {res : Sys × (Int32 ⊕ String)} (hd : 6 ≤ d) (hK : SK B m) (hB : B + 0 < 2147483648)  (hx : x_X6_setSpan m p1 p2 = res) : Ev mtab mcode d 63 [.ref (bb + 1), .int p1, .int p2] (n, c, s, sy bb m M) (jO res.2) (jH res.2 (n, c, s, sy bb m M) (n, c, s, sy bb res.1 M)) := by
  obtain ⟨d, rfl⟩ : ∃ e, d = e + 1 := ⟨d - 1, by omega⟩
  rw [x_X6_setSpan_eq] at hx
  unfold y_X6_setSpan at hx
  refine jv_mkS (m := mX6_setSpan) (cd := jcX6_setSpan) rfl rfl (Nat.le_of_ble_eq_true rfl) (fun _ => trivial) (by omega) rfl ?_
  refine JV.ald (p2 := 1) rfl rfl rfl ?_
  refine JV.getf (p2 := 4) rfl sy_X rfl rfl ?_
  refine JV.ild (p2 := 5) rfl rfl rfl ?_
  refine JV.invI (p2 := 8) rfl rfl rfl sy1_F (Nat.le_of_ble_eq_true rfl) rfl (sy1_ev0 (ev_X1_hasStand (by omega) rfl)) ?_
  by_cases h8 : (x_X1_hasStand (m 1) p1) = true
  · rw [if_pos h8] at hx
    refine JV.brT rfl rfl (bI_t h8) ?_
    refine JV.ild (p2 := 22) rfl rfl rfl ?_
    refine JV.stk (len := 1) (sem := (s_push (.int 1))) (p2 := 23) rfl rfl rfl ?_
    refine JV.stk (len := 1) (sem := (s_push (.int 4))) (p2 := 24) rfl rfl rfl ?_
    refine JV.insI (p2 := 27) rfl (Nat.le_of_ble_eq_true rfl) rfl rfl (Nat.le_of_ble_eq_true rfl) rfl (ev_X6_isOutside (by omega) rfl) rfl ?_
    by_cases h27 : (x_X6_isOutside p2 1 4) = true
    · rw [if_pos h27] at hx
      refine JV.brF (p2 := 30) rfl rfl rfl (bI_t h27) ?_
      subst hx
      exact JV.thr rfl (Nat.le_of_ble_eq_true rfl)
    · rw [if_neg h27] at hx
      refine JV.brT rfl rfl (bI_f h27) ?_
      refine JV.ald (p2 := 41) rfl rfl rfl ?_
      refine JV.getf (p2 := 44) rfl sy_X rfl rfl ?_
      refine JV.getf (p2 := 47) rfl sy1_F rfl rfl ?_
      refine JV.ild (p2 := 48) rfl rfl rfl ?_
      have e9 := has_S hK.f1 h8
      have b9 := e9.2
      have c9 := hK.f1.ns.2
      refine JV.aald (p2 := 49) rfl sy1_FS e9.1 (by omega) (by decide) (if_pos (by omega)) rfl ?_
      refine JV.getf (p2 := 52) rfl (sy1_S (by omega)) rfl rfl ?_
      refine JV.ist (p2 := 53) rfl rfl rfl ?_
      refine JV.ald (p2 := 54) rfl rfl rfl ?_
      refine JV.inv0 (p2 := 57) rfl rfl rfl sy_X (Nat.le_of_ble_eq_true rfl) rfl (ev_X6_save (by omega) hK rfl) ?_
      refine JV.ald (p2 := 58) rfl rfl rfl ?_
      refine JV.getf (p2 := 61) rfl sy_X rfl rfl ?_
      refine JV.getf (p2 := 64) rfl sy1_F rfl rfl ?_
      refine JV.ild (p2 := 65) rfl rfl rfl ?_
      refine JV.aald (p2 := 66) rfl sy1_FS e9.1 (by omega) (by decide) (if_pos (by omega)) rfl ?_
      refine JV.ild (p2 := 67) rfl rfl rfl ?_
      refine JV.puti (p2 := 70) rfl (sy1_S (by omega)) (Nat.le_of_ble_eq_true rfl) (sy1_wS (k := 0) (by omega) rfl) rfl ?_
      refine JV.ild (p2 := 71) rfl rfl rfl ?_
      subst hx
      exact JV.ret rfl (fun _ => rfl) rfl rfl
  · rw [if_neg h8] at hx
    refine JV.brF (p2 := 11) rfl rfl rfl (fun e => e (bI_f h8)) ?_
    subst hx
    exact JV.thr rfl (Nat.le_of_ble_eq_true rfl)
noncomputable def y_X6_setStrength (m : Sys) (p1 : Int32) (p2 : Int32) : Sys × (Int32 ⊕ String) := (if (x_X1_hasTug (m 1) p1) = true then (if (x_X6_isOutside p2 1 3) = true then (m, (Sum.inr "java/lang/IllegalArgumentException" : Int32 ⊕ String)) else ((us (x_X6_save m) 1 (up3 ((x_X6_save m) 1) 2 (ix p1) 0 p2)), (Sum.inl (m 1 2 (ix p1) 0) : Int32 ⊕ String))) else (m, (Sum.inr "java/lang/IndexOutOfBoundsException" : Int32 ⊕ String)))
theorem xe_X6_setStrength : ∃ f, f = y_X6_setStrength := ⟨y_X6_setStrength, rfl⟩
noncomputable def x_X6_setStrength := Classical.choose xe_X6_setStrength
theorem x_X6_setStrength_eq : x_X6_setStrength = y_X6_setStrength := Classical.choose_spec xe_X6_setStrength
theorem ev_X6_setStrength {bb : Nat} {d n c s : Nat} {m : Sys} {M : JM} {p1 : Int32} {p2 : Int32} {B : Nat} {res : Sys × (Int32 ⊕ String)} (hd : 6 ≤ d) (hK : SK B m) (hB : B + 0 < 2147483648)  (hx : x_X6_setStrength m p1 p2 = res) : Ev mtab mcode d 64 [.ref (bb + 1), .int p1, .int p2] (n, c, s, sy bb m M) (jO res.2) (jH res.2 (n, c, s, sy bb m M) (n, c, s, sy bb res.1 M)) := by
  obtain ⟨d, rfl⟩ : ∃ e, d = e + 1 := ⟨d - 1, by omega⟩
  rw [x_X6_setStrength_eq] at hx
  unfold y_X6_setStrength at hx
  refine jv_mkS (m := mX6_setStrength) (cd := jcX6_setStrength) rfl rfl (Nat.le_of_ble_eq_true rfl) (fun _ => trivial) (by omega) rfl ?_
  refine JV.ald (p2 := 1) rfl rfl rfl ?_
  refine JV.getf (p2 := 4) rfl sy_X rfl rfl ?_
  refine JV.ild (p2 := 5) rfl rfl rfl ?_
  refine JV.invI (p2 := 8) rfl rfl rfl sy1_F (Nat.le_of_ble_eq_true rfl) rfl (sy1_ev0 (ev_X1_hasTug (by omega) rfl)) ?_
  by_cases h8 : (x_X1_hasTug (m 1) p1) = true
  · rw [if_pos h8] at hx
    refine JV.brT rfl rfl (bI_t h8) ?_
    refine JV.ild (p2 := 22) rfl rfl rfl ?_
    refine JV.stk (len := 1) (sem := (s_push (.int 1))) (p2 := 23) rfl rfl rfl ?_
    refine JV.stk (len := 1) (sem := (s_push (.int 3))) (p2 := 24) rfl rfl rfl ?_
    refine JV.insI (p2 := 27) rfl (Nat.le_of_ble_eq_true rfl) rfl rfl (Nat.le_of_ble_eq_true rfl) rfl (ev_X6_isOutside (by omega) rfl) rfl ?_
    by_cases h27 : (x_X6_isOutside p2 1 3) = true
    · rw [if_pos h27] at hx
      refine JV.brF (p2 := 30) rfl rfl rfl (bI_t h27) ?_
      subst hx
      exact JV.thr rfl (Nat.le_of_ble_eq_true rfl)
    · rw [if_neg h27] at hx
      refine JV.brT rfl rfl (bI_f h27) ?_
      refine JV.ald (p2 := 41) rfl rfl rfl ?_
      refine JV.getf (p2 := 44) rfl sy_X rfl rfl ?_
      refine JV.getf (p2 := 47) rfl sy1_F rfl rfl ?_
      refine JV.ild (p2 := 48) rfl rfl rfl ?_
      have e9 := has_T hK.f1 h8
      have b9 := e9.2
      have c9 := hK.f1.nt.2
      refine JV.aald (p2 := 49) rfl sy1_FT e9.1 (by omega) (by decide) (if_pos (by omega)) rfl ?_
      refine JV.getf (p2 := 52) rfl (sy1_T (by omega)) rfl rfl ?_
      refine JV.ist (p2 := 53) rfl rfl rfl ?_
      refine JV.ald (p2 := 54) rfl rfl rfl ?_
      refine JV.inv0 (p2 := 57) rfl rfl rfl sy_X (Nat.le_of_ble_eq_true rfl) rfl (ev_X6_save (by omega) hK rfl) ?_
      refine JV.ald (p2 := 58) rfl rfl rfl ?_
      refine JV.getf (p2 := 61) rfl sy_X rfl rfl ?_
      refine JV.getf (p2 := 64) rfl sy1_F rfl rfl ?_
      refine JV.ild (p2 := 65) rfl rfl rfl ?_
      refine JV.aald (p2 := 66) rfl sy1_FT e9.1 (by omega) (by decide) (if_pos (by omega)) rfl ?_
      refine JV.ild (p2 := 67) rfl rfl rfl ?_
      refine JV.puti (p2 := 70) rfl (sy1_T (by omega)) (Nat.le_of_ble_eq_true rfl) (sy1_wT (k := 0) (by omega) rfl) rfl ?_
      refine JV.ild (p2 := 71) rfl rfl rfl ?_
      subst hx
      exact JV.ret rfl (fun _ => rfl) rfl rfl
  · rw [if_neg h8] at hx
    refine JV.brF (p2 := 11) rfl rfl rfl (fun e => e (bI_f h8)) ?_
    subst hx
    exact JV.thr rfl (Nat.le_of_ble_eq_true rfl)
noncomputable def y_X6_setLeaves (m : Sys) (p1 : Int32) (p2 : Int32) : Sys × (Int32 ⊕ String) := (if (x_X1_hasAircraft (m 1) p1) = true then (if (m 1 3 (ix p1) 2) < p2 then (if 1999 < p2 then (m, (Sum.inr "java/lang/IllegalArgumentException" : Int32 ⊕ String)) else (if (m 1 3 (ix p1) 5) = 4 then (m, (Sum.inr "java/lang/IllegalStateException" : Int32 ⊕ String)) else (if (m 1 3 (ix p1) 5) = 5 then (m, (Sum.inr "java/lang/IllegalStateException" : Int32 ⊕ String)) else ((us (x_X6_save m) 1 (up3 ((x_X6_save m) 1) 3 (ix p1) 3 p2)), (Sum.inl (m 1 3 (ix p1) 3) : Int32 ⊕ String))))) else (m, (Sum.inr "java/lang/IllegalArgumentException" : Int32 ⊕ String))) else (m, (Sum.inr "java/lang/IndexOutOfBoundsException" : Int32 ⊕ String)))
theorem xe_X6_setLeaves : ∃ f, f = y_X6_setLeaves := ⟨y_X6_setLeaves, rfl⟩
noncomputable def x_X6_setLeaves := Classical.choose xe_X6_setLeaves
theorem x_X6_setLeaves_eq : x_X6_setLeaves = y_X6_setLeaves := Classical.choose_spec xe_X6_setLeaves
theorem ev_X6_setLeaves {bb : Nat} {d n c s : Nat} {m : Sys} {M : JM} {p1 : Int32} {p2 : Int32} {B : Nat} {res : Sys × (Int32 ⊕ String)} (hd : 6 ≤ d) (hK : SK B m) (hB : B + 0 < 2147483648)  (hx : x_X6_setLeaves m p1 p2 = res) : Ev mtab mcode d 67 [.ref (bb + 1), .int p1, .int p2] (n, c, s, sy bb m M) (jO res.2) (jH res.2 (n, c, s, sy bb m M) (n, c, s, sy bb res.1 M)) := by
  obtain ⟨d, rfl⟩ : ∃ e, d = e + 1 := ⟨d - 1, by omega⟩
  rw [x_X6_setLeaves_eq] at hx
  unfold y_X6_setLeaves at hx
  refine jv_mkS (m := mX6_setLeaves) (cd := jcX6_setLeaves) rfl rfl (Nat.le_of_ble_eq_true rfl) (fun _ => trivial) (by omega) rfl ?_
  refine JV.ald (p2 := 1) rfl rfl rfl ?_
  refine JV.getf (p2 := 4) rfl sy_X rfl rfl ?_
  refine JV.ild (p2 := 5) rfl rfl rfl ?_
  refine JV.invI (p2 := 8) rfl rfl rfl sy1_F (Nat.le_of_ble_eq_true rfl) rfl (sy1_ev0 (ev_X1_hasAircraft (by omega) rfl)) ?_
  by_cases h8 : (x_X1_hasAircraft (m 1) p1) = true
  · rw [if_pos h8] at hx
    refine JV.brT rfl rfl (bI_t h8) ?_
    refine JV.ald (p2 := 22) rfl rfl rfl ?_
    refine JV.getf (p2 := 25) rfl sy_X rfl rfl ?_
    refine JV.getf (p2 := 28) rfl sy1_F rfl rfl ?_
    refine JV.ild (p2 := 29) rfl rfl rfl ?_
    have e9 := has_A hK.f1 h8
    have b9 := e9.2
    have c9 := hK.f1.na.2
    refine JV.aald (p2 := 30) rfl sy1_FA e9.1 (by omega) (by decide) (if_pos (by omega)) rfl ?_
    refine JV.ast (p2 := 31) rfl rfl rfl ?_
    refine JV.ild (p2 := 32) rfl rfl rfl ?_
    refine JV.ald (p2 := 33) rfl rfl rfl ?_
    refine JV.getf (p2 := 36) rfl (sy1_A (by omega)) rfl rfl ?_
    by_cases h36 : (m 1 3 (ix p1) 2) < p2
    · rw [if_pos h36] at hx
      refine JV.brF (p2 := 39) rfl rfl rfl (Int32.not_le.mpr h36) ?_
      refine JV.ild (p2 := 40) rfl rfl rfl ?_
      refine JV.stk (len := 3) (sem := (s_push (.int 1999))) (p2 := 43) rfl rfl rfl ?_
      by_cases h43 : 1999 < p2
      · rw [if_pos h43] at hx
        refine JV.brF (p2 := 46) rfl rfl rfl (Int32.not_le.mpr h43) ?_
        subst hx
        exact JV.thr rfl (Nat.le_of_ble_eq_true rfl)
      · rw [if_neg h43] at hx
        refine JV.brT rfl rfl (Int32.not_lt.mp h43) ?_
        refine JV.ald (p2 := 57) rfl rfl rfl ?_
        refine JV.getf (p2 := 60) rfl (sy1_A (by omega)) rfl rfl ?_
        refine JV.stk (len := 1) (sem := (s_push (.int 4))) (p2 := 61) rfl rfl rfl ?_
        by_cases h61 : (m 1 3 (ix p1) 5) = 4
        · rw [if_pos h61] at hx
          refine JV.brT rfl rfl h61 ?_
          subst hx
          exact JV.thr rfl (Nat.le_of_ble_eq_true rfl)
        · rw [if_neg h61] at hx
          refine JV.brF (p2 := 64) rfl rfl rfl h61 ?_
          refine JV.ald (p2 := 65) rfl rfl rfl ?_
          refine JV.getf (p2 := 68) rfl (sy1_A (by omega)) rfl rfl ?_
          refine JV.stk (len := 1) (sem := (s_push (.int 5))) (p2 := 69) rfl rfl rfl ?_
          by_cases h69 : (m 1 3 (ix p1) 5) = 5
          · rw [if_pos h69] at hx
            refine JV.brF (p2 := 72) rfl rfl rfl (fun e => e h69) ?_
            subst hx
            exact JV.thr rfl (Nat.le_of_ble_eq_true rfl)
          · rw [if_neg h69] at hx
            refine JV.brT rfl rfl h69 ?_
            refine JV.ald (p2 := 83) rfl rfl rfl ?_
            refine JV.getf (p2 := 86) rfl (sy1_A (by omega)) rfl rfl ?_
            refine JV.ist (p2 := 88) rfl rfl rfl ?_
            refine JV.ald (p2 := 89) rfl rfl rfl ?_
            refine JV.inv0 (p2 := 92) rfl rfl rfl sy_X (Nat.le_of_ble_eq_true rfl) rfl (ev_X6_save (by omega) hK rfl) ?_
            refine JV.ald (p2 := 93) rfl rfl rfl ?_
            refine JV.ild (p2 := 94) rfl rfl rfl ?_
            refine JV.puti (p2 := 97) rfl (sy1_A (by omega)) (Nat.le_of_ble_eq_true rfl) (sy1_wA (k := 3) (by omega) rfl) rfl ?_
            refine JV.ild (p2 := 99) rfl rfl rfl ?_
            subst hx
            exact JV.ret rfl (fun _ => rfl) rfl rfl
    · rw [if_neg h36] at hx
      refine JV.brT rfl rfl (Int32.not_lt.mp h36) ?_
      subst hx
      exact JV.thr rfl (Nat.le_of_ble_eq_true rfl)
  · rw [if_neg h8] at hx
    refine JV.brF (p2 := 11) rfl rfl rfl (fun e => e (bI_f h8)) ?_
    subst hx
    exact JV.thr rfl (Nat.le_of_ble_eq_true rfl)
noncomputable def y_X6_setCurfew (m : Sys) (p1 : Int32) (p2 : Int32) : Sys × (Int32 ⊕ String) := (if (x_X6_isOutside p1 0 1440) = true then (m, (Sum.inr "java/lang/IllegalArgumentException" : Int32 ⊕ String)) else (if (x_X6_isOutside p2 0 1440) = true then (m, (Sum.inr "java/lang/IllegalArgumentException" : Int32 ⊕ String)) else ((us (us (x_X6_save m) 1 (up3 ((x_X6_save m) 1) 0 0 4 p1)) 1 (up3 ((us (x_X6_save m) 1 (up3 ((x_X6_save m) 1) 0 0 4 p1)) 1) 0 0 5 p2)), (Sum.inl (if 0 < (p2 - p1) then (p2 - p1) else 0) : Int32 ⊕ String))))
theorem xe_X6_setCurfew : ∃ f, f = y_X6_setCurfew := ⟨y_X6_setCurfew, rfl⟩
noncomputable def x_X6_setCurfew := Classical.choose xe_X6_setCurfew
theorem x_X6_setCurfew_eq : x_X6_setCurfew = y_X6_setCurfew := Classical.choose_spec xe_X6_setCurfew
theorem ev_X6_setCurfew {bb : Nat} {d n c s : Nat} {m : Sys} {M : JM} {p1 : Int32} {p2 : Int32} {B : Nat} {res : Sys × (Int32 ⊕ String)} (hd : 6 ≤ d) (hK : SK B m) (hB : B + 0 < 2147483648)  (hx : x_X6_setCurfew m p1 p2 = res) : Ev mtab mcode d 65 [.ref (bb + 1), .int p1, .int p2] (n, c, s, sy bb m M) (jO res.2) (jH res.2 (n, c, s, sy bb m M) (n, c, s, sy bb res.1 M)) := by
  obtain ⟨d, rfl⟩ : ∃ e, d = e + 1 := ⟨d - 1, by omega⟩
  rw [x_X6_setCurfew_eq] at hx
  unfold y_X6_setCurfew at hx
  refine jv_mkS (m := mX6_setCurfew) (cd := jcX6_setCurfew) rfl rfl (Nat.le_of_ble_eq_true rfl) (fun _ => trivial) (by omega) rfl ?_
  refine JV.ild (p2 := 1) rfl rfl rfl ?_
  refine JV.stk (len := 1) (sem := (s_push (.int 0))) (p2 := 2) rfl rfl rfl ?_
  refine JV.stk (len := 3) (sem := (s_push (.int 1440))) (p2 := 5) rfl rfl rfl ?_
  refine JV.insI (p2 := 8) rfl (Nat.le_of_ble_eq_true rfl) rfl rfl (Nat.le_of_ble_eq_true rfl) rfl (ev_X6_isOutside (by omega) rfl) rfl ?_
  by_cases h8 : (x_X6_isOutside p1 0 1440) = true
  · rw [if_pos h8] at hx
    refine JV.brT rfl rfl (bI_t h8) ?_
    subst hx
    exact JV.thr rfl (Nat.le_of_ble_eq_true rfl)
  · rw [if_neg h8] at hx
    refine JV.brF (p2 := 11) rfl rfl rfl (fun e => e (bI_f h8)) ?_
    refine JV.ild (p2 := 12) rfl rfl rfl ?_
    refine JV.stk (len := 1) (sem := (s_push (.int 0))) (p2 := 13) rfl rfl rfl ?_
    refine JV.stk (len := 3) (sem := (s_push (.int 1440))) (p2 := 16) rfl rfl rfl ?_
    refine JV.insI (p2 := 19) rfl (Nat.le_of_ble_eq_true rfl) rfl rfl (Nat.le_of_ble_eq_true rfl) rfl (ev_X6_isOutside (by omega) rfl) rfl ?_
    by_cases h19 : (x_X6_isOutside p2 0 1440) = true
    · rw [if_pos h19] at hx
      refine JV.brF (p2 := 22) rfl rfl rfl (bI_t h19) ?_
      subst hx
      exact JV.thr rfl (Nat.le_of_ble_eq_true rfl)
    · rw [if_neg h19] at hx
      refine JV.brT rfl rfl (bI_f h19) ?_
      refine JV.ald (p2 := 33) rfl rfl rfl ?_
      refine JV.inv0 (p2 := 36) rfl rfl rfl sy_X (Nat.le_of_ble_eq_true rfl) rfl (ev_X6_save (by omega) hK rfl) ?_
      refine JV.ald (p2 := 37) rfl rfl rfl ?_
      refine JV.getf (p2 := 40) rfl sy_X rfl rfl ?_
      refine JV.ild (p2 := 41) rfl rfl rfl ?_
      refine JV.puti (p2 := 44) rfl sy1_F (Nat.le_of_ble_eq_true rfl) (sy1_wF (k := 4) rfl) rfl ?_
      refine JV.ald (p2 := 45) rfl rfl rfl ?_
      refine JV.getf (p2 := 48) rfl sy_X rfl rfl ?_
      refine JV.ild (p2 := 49) rfl rfl rfl ?_
      refine JV.puti (p2 := 52) rfl sy1_F (Nat.le_of_ble_eq_true rfl) (sy1_wF (k := 5) rfl) rfl ?_
      refine JV.stk (len := 1) (sem := (s_push (.int 0))) (p2 := 53) rfl rfl rfl ?_
      refine JV.ild (p2 := 54) rfl rfl rfl ?_
      refine JV.ild (p2 := 55) rfl rfl rfl ?_
      refine JV.stk (len := 1) (sem := s_isub) (p2 := 56) rfl rfl rfl ?_
      refine JV.mmax (p2 := 59) rfl (Nat.le_of_ble_eq_true rfl) rfl ?_
      subst hx
      exact JV.ret rfl (fun _ => rfl) rfl rfl
noncomputable def y_X6_expect (m : Sys) (p1 : Int32) (p2 : Int32) (p3 : Int32) (p4 : Int32) : Sys × (Int32 ⊕ String) := (if (x_X6_isKind p1) = true then (if (x_X6_isOutside p2 0 1999) = true then (m, (Sum.inr "java/lang/IllegalArgumentException" : Int32 ⊕ String)) else (if p2 < p3 then (if 1999 < p3 then (m, (Sum.inr "java/lang/IllegalArgumentException" : Int32 ⊕ String)) else (if (x_X6_isOutside p4 0 400) = true then (m, (Sum.inr "java/lang/IllegalArgumentException" : Int32 ⊕ String)) else (if (m 1 0 0 2) < 12 then ((us (x_X6_save m) 1 (x_X1_add ((x_X6_save m) 1) p1 p2 p3 p4)), (Sum.inl (m 1 0 0 2) : Int32 ⊕ String)) else (m, (Sum.inr "java/lang/IllegalStateException" : Int32 ⊕ String))))) else (m, (Sum.inr "java/lang/IllegalArgumentException" : Int32 ⊕ String)))) else (m, (Sum.inr "java/lang/IllegalArgumentException" : Int32 ⊕ String)))
theorem xe_X6_expect : ∃ f, f = y_X6_expect := ⟨y_X6_expect, rfl⟩
noncomputable def x_X6_expect := Classical.choose xe_X6_expect
theorem x_X6_expect_eq : x_X6_expect = y_X6_expect := Classical.choose_spec xe_X6_expect
theorem ev_X6_expect {bb : Nat} {d n c s : Nat} {m : Sys} {M : JM} {p1 : Int32} {p2 : Int32} {p3 : Int32} {p4 : Int32} {B : Nat} {res : Sys × (Int32 ⊕ String)} (hd : 6 ≤ d) (hK : SK B m) (hB : B + 0 < 2147483648)  (hx : x_X6_expect m p1 p2 p3 p4 = res) : Ev mtab mcode d 66 [.ref (bb + 1), .int p1, .int p2, .int p3, .int p4] (n, c, s, sy bb m M) (jO res.2) (jH res.2 (n, c, s, sy bb m M) (n, c, s, sy bb res.1 M)) := by
  obtain ⟨d, rfl⟩ : ∃ e, d = e + 1 := ⟨d - 1, by omega⟩
  rw [x_X6_expect_eq] at hx
  unfold y_X6_expect at hx
  refine jv_mkS (m := mX6_expect) (cd := jcX6_expect) rfl rfl (Nat.le_of_ble_eq_true rfl) (fun _ => trivial) (by omega) rfl ?_
  refine JV.ild (p2 := 1) rfl rfl rfl ?_
  refine JV.insI (p2 := 4) rfl (Nat.le_of_ble_eq_true rfl) rfl rfl (Nat.le_of_ble_eq_true rfl) rfl (ev_X6_isKind (by omega) rfl) rfl ?_
  by_cases h4 : (x_X6_isKind p1) = true
  · rw [if_pos h4] at hx
    refine JV.brF (p2 := 7) rfl rfl rfl (bI_t h4) ?_
    refine JV.ild (p2 := 8) rfl rfl rfl ?_
    refine JV.stk (len := 1) (sem := (s_push (.int 0))) (p2 := 9) rfl rfl rfl ?_
    refine JV.stk (len := 3) (sem := (s_push (.int 1999))) (p2 := 12) rfl rfl rfl ?_
    refine JV.insI (p2 := 15) rfl (Nat.le_of_ble_eq_true rfl) rfl rfl (Nat.le_of_ble_eq_true rfl) rfl (ev_X6_isOutside (by omega) rfl) rfl ?_
    by_cases h15 : (x_X6_isOutside p2 0 1999) = true
    · rw [if_pos h15] at hx
      refine JV.brT rfl rfl (bI_t h15) ?_
      subst hx
      exact JV.thr rfl (Nat.le_of_ble_eq_true rfl)
    · rw [if_neg h15] at hx
      refine JV.brF (p2 := 18) rfl rfl rfl (fun e => e (bI_f h15)) ?_
      refine JV.ild (p2 := 19) rfl rfl rfl ?_
      refine JV.ild (p2 := 20) rfl rfl rfl ?_
      by_cases h20 : p2 < p3
      · rw [if_pos h20] at hx
        refine JV.brF (p2 := 23) rfl rfl rfl (Int32.not_le.mpr h20) ?_
        refine JV.ild (p2 := 24) rfl rfl rfl ?_
        refine JV.stk (len := 3) (sem := (s_push (.int 1999))) (p2 := 27) rfl rfl rfl ?_
        by_cases h27 : 1999 < p3
        · rw [if_pos h27] at hx
          refine JV.brT rfl rfl h27 ?_
          subst hx
          exact JV.thr rfl (Nat.le_of_ble_eq_true rfl)
        · rw [if_neg h27] at hx
          refine JV.brF (p2 := 30) rfl rfl rfl h27 ?_
          refine JV.ild (p2 := 32) rfl rfl rfl ?_
          refine JV.stk (len := 1) (sem := (s_push (.int 0))) (p2 := 33) rfl rfl rfl ?_
          refine JV.stk (len := 3) (sem := (s_push (.int 400))) (p2 := 36) rfl rfl rfl ?_
          refine JV.insI (p2 := 39) rfl (Nat.le_of_ble_eq_true rfl) rfl rfl (Nat.le_of_ble_eq_true rfl) rfl (ev_X6_isOutside (by omega) rfl) rfl ?_
          by_cases h39 : (x_X6_isOutside p4 0 400) = true
          · rw [if_pos h39] at hx
            refine JV.brF (p2 := 42) rfl rfl rfl (bI_t h39) ?_
            subst hx
            exact JV.thr rfl (Nat.le_of_ble_eq_true rfl)
          · rw [if_neg h39] at hx
            refine JV.brT rfl rfl (bI_f h39) ?_
            refine JV.ald (p2 := 53) rfl rfl rfl ?_
            refine JV.getf (p2 := 56) rfl sy_X rfl rfl ?_
            refine JV.getf (p2 := 59) rfl sy1_F rfl rfl ?_
            refine JV.stk (len := 2) (sem := (s_push (.int 12))) (p2 := 61) rfl rfl rfl ?_
            by_cases h61 : (m 1 0 0 2) < 12
            · rw [if_pos h61] at hx
              refine JV.brT rfl rfl h61 ?_
              refine JV.ald (p2 := 75) rfl rfl rfl ?_
              refine JV.getf (p2 := 78) rfl sy_X rfl rfl ?_
              refine JV.getf (p2 := 81) rfl sy1_F rfl rfl ?_
              refine JV.ist (p2 := 83) rfl rfl rfl ?_
              refine JV.ald (p2 := 84) rfl rfl rfl ?_
              refine JV.inv0 (p2 := 87) rfl rfl rfl sy_X (Nat.le_of_ble_eq_true rfl) rfl (ev_X6_save (by omega) hK rfl) ?_
              refine JV.ald (p2 := 88) rfl rfl rfl ?_
              refine JV.getf (p2 := 91) rfl sy_X rfl rfl ?_
              refine JV.ild (p2 := 92) rfl rfl rfl ?_
              refine JV.ild (p2 := 93) rfl rfl rfl ?_
              refine JV.ild (p2 := 94) rfl rfl rfl ?_
              refine JV.ild (p2 := 96) rfl rfl rfl ?_
              refine JV.inv0 (p2 := 99) rfl rfl rfl sy1_F (Nat.le_of_ble_eq_true rfl) rfl (sy1_ev (ev_X1_add (by omega) (sk_save hK).f1 rfl)) ?_
              refine JV.ild (p2 := 101) rfl rfl rfl ?_
              subst hx
              exact JV.ret rfl (fun _ => rfl) rfl rfl
            · rw [if_neg h61] at hx
              refine JV.brF (p2 := 64) rfl rfl rfl h61 ?_
              subst hx
              exact JV.thr rfl (Nat.le_of_ble_eq_true rfl)
      · rw [if_neg h20] at hx
        refine JV.brT rfl rfl (Int32.not_lt.mp h20) ?_
        subst hx
        exact JV.thr rfl (Nat.le_of_ble_eq_true rfl)
  · rw [if_neg h4] at hx
    refine JV.brT rfl rfl (bI_f h4) ?_
    subst hx
    exact JV.thr rfl (Nat.le_of_ble_eq_true rfl)
noncomputable def y_X6_aircraft (m : Sys) (p1 : Int32) (p2 : Int32) : (Int32 ⊕ String) := (if (x_X1_hasAircraft (m 1) p1) = true then (if (x_X6_isOutside p2 0 9) = true then (Sum.inr "java/lang/IllegalArgumentException" : Int32 ⊕ String) else (Sum.inl (x_X0_answer (m 1) (ix p1) p2) : Int32 ⊕ String)) else (Sum.inr "java/lang/IndexOutOfBoundsException" : Int32 ⊕ String))
theorem xe_X6_aircraft : ∃ f, f = y_X6_aircraft := ⟨y_X6_aircraft, rfl⟩
noncomputable def x_X6_aircraft := Classical.choose xe_X6_aircraft
theorem x_X6_aircraft_eq : x_X6_aircraft = y_X6_aircraft := Classical.choose_spec xe_X6_aircraft
theorem ev_X6_aircraft {bb : Nat} {d n c s : Nat} {m : Sys} {M : JM} {p1 : Int32} {p2 : Int32} {B : Nat} {res : (Int32 ⊕ String)} (hd : 6 ≤ d) (hK : SK B m) (hB : B + 0 < 2147483648)  (hx : x_X6_aircraft m p1 p2 = res) : Ev mtab mcode d 69 [.ref (bb + 1), .int p1, .int p2] (n, c, s, sy bb m M) (jO res) (jH res (n, c, s, sy bb m M) (n, c, s, sy bb m M)) := by
  obtain ⟨d, rfl⟩ : ∃ e, d = e + 1 := ⟨d - 1, by omega⟩
  rw [x_X6_aircraft_eq] at hx
  unfold y_X6_aircraft at hx
  refine jv_mkS (m := mX6_aircraft) (cd := jcX6_aircraft) rfl rfl (Nat.le_of_ble_eq_true rfl) (fun _ => trivial) (by omega) rfl ?_
  refine JV.ald (p2 := 1) rfl rfl rfl ?_
  refine JV.getf (p2 := 4) rfl sy_X rfl rfl ?_
  refine JV.ild (p2 := 5) rfl rfl rfl ?_
  refine JV.invI (p2 := 8) rfl rfl rfl sy1_F (Nat.le_of_ble_eq_true rfl) rfl (sy1_ev0 (ev_X1_hasAircraft (by omega) rfl)) ?_
  by_cases h8 : (x_X1_hasAircraft (m 1) p1) = true
  · rw [if_pos h8] at hx
    refine JV.brT rfl rfl (bI_t h8) ?_
    refine JV.ild (p2 := 22) rfl rfl rfl ?_
    refine JV.stk (len := 1) (sem := (s_push (.int 0))) (p2 := 23) rfl rfl rfl ?_
    refine JV.stk (len := 2) (sem := (s_push (.int 9))) (p2 := 25) rfl rfl rfl ?_
    refine JV.insI (p2 := 28) rfl (Nat.le_of_ble_eq_true rfl) rfl rfl (Nat.le_of_ble_eq_true rfl) rfl (ev_X6_isOutside (by omega) rfl) rfl ?_
    by_cases h28 : (x_X6_isOutside p2 0 9) = true
    · rw [if_pos h28] at hx
      refine JV.brF (p2 := 31) rfl rfl rfl (bI_t h28) ?_
      subst hx
      exact JV.thr rfl (Nat.le_of_ble_eq_true rfl)
    · rw [if_neg h28] at hx
      refine JV.brT rfl rfl (bI_f h28) ?_
      refine JV.ald (p2 := 42) rfl rfl rfl ?_
      refine JV.getf (p2 := 45) rfl sy_X rfl rfl ?_
      refine JV.getf (p2 := 48) rfl sy1_F rfl rfl ?_
      refine JV.ild (p2 := 49) rfl rfl rfl ?_
      have e9 := has_A hK.f1 h8
      have b9 := e9.2
      have c9 := hK.f1.na.2
      refine JV.aald (p2 := 50) rfl sy1_FA e9.1 (by omega) (by decide) (if_pos (by omega)) rfl ?_
      refine JV.ild (p2 := 51) rfl rfl rfl ?_
      refine JV.invI (p2 := 54) rfl rfl rfl (sy1_A (by omega)) (Nat.le_of_ble_eq_true rfl) rfl (sy1_ev0 (ev_X0_answer (by omega) (by omega) rfl)) ?_
      subst hx
      exact JV.ret rfl (fun _ => rfl) rfl rfl
  · rw [if_neg h8] at hx
    refine JV.brF (p2 := 11) rfl rfl rfl (fun e => e (bI_f h8)) ?_
    subst hx
    exact JV.thr rfl (Nat.le_of_ble_eq_true rfl)
noncomputable def y_X6_stand (m : Sys) (p1 : Int32) (p2 : Int32) : (Int32 ⊕ String) := (if (x_X1_hasStand (m 1) p1) = true then (if (x_X6_isOutside p2 0 3) = true then (Sum.inr "java/lang/IllegalArgumentException" : Int32 ⊕ String) else (Sum.inl (x_X1_standAnswer (m 1) (ix p1) p2) : Int32 ⊕ String)) else (Sum.inr "java/lang/IndexOutOfBoundsException" : Int32 ⊕ String))
theorem xe_X6_stand : ∃ f, f = y_X6_stand := ⟨y_X6_stand, rfl⟩
noncomputable def x_X6_stand := Classical.choose xe_X6_stand
theorem x_X6_stand_eq : x_X6_stand = y_X6_stand := Classical.choose_spec xe_X6_stand
theorem ev_X6_stand {bb : Nat} {d n c s : Nat} {m : Sys} {M : JM} {p1 : Int32} {p2 : Int32} {B : Nat} {res : (Int32 ⊕ String)} (hd : 6 ≤ d) (hK : SK B m) (hB : B + 0 < 2147483648)  (hx : x_X6_stand m p1 p2 = res) : Ev mtab mcode d 70 [.ref (bb + 1), .int p1, .int p2] (n, c, s, sy bb m M) (jO res) (jH res (n, c, s, sy bb m M) (n, c, s, sy bb m M)) := by
  obtain ⟨d, rfl⟩ : ∃ e, d = e + 1 := ⟨d - 1, by omega⟩
  rw [x_X6_stand_eq] at hx
  unfold y_X6_stand at hx
  refine jv_mkS (m := mX6_stand) (cd := jcX6_stand) rfl rfl (Nat.le_of_ble_eq_true rfl) (fun _ => trivial) (by omega) rfl ?_
  refine JV.ald (p2 := 1) rfl rfl rfl ?_
  refine JV.getf (p2 := 4) rfl sy_X rfl rfl ?_
  refine JV.ild (p2 := 5) rfl rfl rfl ?_
  refine JV.invI (p2 := 8) rfl rfl rfl sy1_F (Nat.le_of_ble_eq_true rfl) rfl (sy1_ev0 (ev_X1_hasStand (by omega) rfl)) ?_
  by_cases h8 : (x_X1_hasStand (m 1) p1) = true
  · rw [if_pos h8] at hx
    refine JV.brT rfl rfl (bI_t h8) ?_
    refine JV.ild (p2 := 22) rfl rfl rfl ?_
    refine JV.stk (len := 1) (sem := (s_push (.int 0))) (p2 := 23) rfl rfl rfl ?_
    refine JV.stk (len := 1) (sem := (s_push (.int 3))) (p2 := 24) rfl rfl rfl ?_
    refine JV.insI (p2 := 27) rfl (Nat.le_of_ble_eq_true rfl) rfl rfl (Nat.le_of_ble_eq_true rfl) rfl (ev_X6_isOutside (by omega) rfl) rfl ?_
    by_cases h27 : (x_X6_isOutside p2 0 3) = true
    · rw [if_pos h27] at hx
      refine JV.brF (p2 := 30) rfl rfl rfl (bI_t h27) ?_
      subst hx
      exact JV.thr rfl (Nat.le_of_ble_eq_true rfl)
    · rw [if_neg h27] at hx
      refine JV.brT rfl rfl (bI_f h27) ?_
      refine JV.ald (p2 := 41) rfl rfl rfl ?_
      refine JV.getf (p2 := 44) rfl sy_X rfl rfl ?_
      refine JV.ild (p2 := 45) rfl rfl rfl ?_
      refine JV.ild (p2 := 46) rfl rfl rfl ?_
      have e9 := has_S hK.f1 h8
      have b9 := e9.2
      have c9 := hK.f1.ns.2
      refine JV.invI (p2 := 49) rfl rfl rfl sy1_F (Nat.le_of_ble_eq_true rfl) rfl (sy1_ev0 (ev_X1_standAnswer (q := (ix p1)) (by omega) e9.1 hK.f1 (by omega) rfl)) ?_
      subst hx
      exact JV.ret rfl (fun _ => rfl) rfl rfl
  · rw [if_neg h8] at hx
    refine JV.brF (p2 := 11) rfl rfl rfl (fun e => e (bI_f h8)) ?_
    subst hx
    exact JV.thr rfl (Nat.le_of_ble_eq_true rfl)
noncomputable def y_X6_tug (m : Sys) (p1 : Int32) (p2 : Int32) : (Int32 ⊕ String) := (if (x_X1_hasTug (m 1) p1) = true then (if (x_X6_isOutside p2 0 4) = true then (Sum.inr "java/lang/IllegalArgumentException" : Int32 ⊕ String) else (Sum.inl (x_X5_answer (m 1) (ix p1) p2) : Int32 ⊕ String)) else (Sum.inr "java/lang/IndexOutOfBoundsException" : Int32 ⊕ String))
theorem xe_X6_tug : ∃ f, f = y_X6_tug := ⟨y_X6_tug, rfl⟩
noncomputable def x_X6_tug := Classical.choose xe_X6_tug
theorem x_X6_tug_eq : x_X6_tug = y_X6_tug := Classical.choose_spec xe_X6_tug
theorem ev_X6_tug {bb : Nat} {d n c s : Nat} {m : Sys} {M : JM} {p1 : Int32} {p2 : Int32} {B : Nat} {res : (Int32 ⊕ String)} (hd : 6 ≤ d) (hK : SK B m) (hB : B + 0 < 2147483648)  (hx : x_X6_tug m p1 p2 = res) : Ev mtab mcode d 71 [.ref (bb + 1), .int p1, .int p2] (n, c, s, sy bb m M) (jO res) (jH res (n, c, s, sy bb m M) (n, c, s, sy bb m M)) := by
  obtain ⟨d, rfl⟩ : ∃ e, d = e + 1 := ⟨d - 1, by omega⟩
  rw [x_X6_tug_eq] at hx
  unfold y_X6_tug at hx
  refine jv_mkS (m := mX6_tug) (cd := jcX6_tug) rfl rfl (Nat.le_of_ble_eq_true rfl) (fun _ => trivial) (by omega) rfl ?_
  refine JV.ald (p2 := 1) rfl rfl rfl ?_
  refine JV.getf (p2 := 4) rfl sy_X rfl rfl ?_
  refine JV.ild (p2 := 5) rfl rfl rfl ?_
  refine JV.invI (p2 := 8) rfl rfl rfl sy1_F (Nat.le_of_ble_eq_true rfl) rfl (sy1_ev0 (ev_X1_hasTug (by omega) rfl)) ?_
  by_cases h8 : (x_X1_hasTug (m 1) p1) = true
  · rw [if_pos h8] at hx
    refine JV.brT rfl rfl (bI_t h8) ?_
    refine JV.ild (p2 := 22) rfl rfl rfl ?_
    refine JV.stk (len := 1) (sem := (s_push (.int 0))) (p2 := 23) rfl rfl rfl ?_
    refine JV.stk (len := 1) (sem := (s_push (.int 4))) (p2 := 24) rfl rfl rfl ?_
    refine JV.insI (p2 := 27) rfl (Nat.le_of_ble_eq_true rfl) rfl rfl (Nat.le_of_ble_eq_true rfl) rfl (ev_X6_isOutside (by omega) rfl) rfl ?_
    by_cases h27 : (x_X6_isOutside p2 0 4) = true
    · rw [if_pos h27] at hx
      refine JV.brF (p2 := 30) rfl rfl rfl (bI_t h27) ?_
      subst hx
      exact JV.thr rfl (Nat.le_of_ble_eq_true rfl)
    · rw [if_neg h27] at hx
      refine JV.brT rfl rfl (bI_f h27) ?_
      refine JV.ald (p2 := 41) rfl rfl rfl ?_
      refine JV.getf (p2 := 44) rfl sy_X rfl rfl ?_
      refine JV.getf (p2 := 47) rfl sy1_F rfl rfl ?_
      refine JV.ild (p2 := 48) rfl rfl rfl ?_
      have e9 := has_T hK.f1 h8
      have b9 := e9.2
      have c9 := hK.f1.nt.2
      refine JV.aald (p2 := 49) rfl sy1_FT e9.1 (by omega) (by decide) (if_pos (by omega)) rfl ?_
      refine JV.ild (p2 := 50) rfl rfl rfl ?_
      refine JV.invI (p2 := 53) rfl rfl rfl (sy1_T (by omega)) (Nat.le_of_ble_eq_true rfl) rfl (sy1_ev0 (ev_X5_answer (by omega) (by omega) rfl)) ?_
      subst hx
      exact JV.ret rfl (fun _ => rfl) rfl rfl
  · rw [if_neg h8] at hx
    refine JV.brF (p2 := 11) rfl rfl rfl (fun e => e (bI_f h8)) ?_
    subst hx
    exact JV.thr rfl (Nat.le_of_ble_eq_true rfl)
noncomputable def y_X6_value (m : Sys) (p1 : Int32) : (Int32 ⊕ String) := (if (x_X6_isOutside p1 0 15) = true then (Sum.inr "java/lang/IllegalArgumentException" : Int32 ⊕ String) else (Sum.inl (x_X1_answer (m 1) p1) : Int32 ⊕ String))
theorem xe_X6_value : ∃ f, f = y_X6_value := ⟨y_X6_value, rfl⟩
noncomputable def x_X6_value := Classical.choose xe_X6_value
theorem x_X6_value_eq : x_X6_value = y_X6_value := Classical.choose_spec xe_X6_value
theorem ev_X6_value {bb : Nat} {d n c s : Nat} {m : Sys} {M : JM} {p1 : Int32} {B : Nat} {res : (Int32 ⊕ String)} (hd : 6 ≤ d) (hK : SK B m) (hB : B + 0 < 2147483648)  (hx : x_X6_value m p1 = res) : Ev mtab mcode d 72 [.ref (bb + 1), .int p1] (n, c, s, sy bb m M) (jO res) (jH res (n, c, s, sy bb m M) (n, c, s, sy bb m M)) := by
  obtain ⟨d, rfl⟩ : ∃ e, d = e + 1 := ⟨d - 1, by omega⟩
  rw [x_X6_value_eq] at hx
  unfold y_X6_value at hx
  refine jv_mkS (m := mX6_value) (cd := jcX6_value) rfl rfl (Nat.le_of_ble_eq_true rfl) (fun _ => trivial) (by omega) rfl ?_
  refine JV.ild (p2 := 1) rfl rfl rfl ?_
  refine JV.stk (len := 1) (sem := (s_push (.int 0))) (p2 := 2) rfl rfl rfl ?_
  refine JV.stk (len := 2) (sem := (s_push (.int 15))) (p2 := 4) rfl rfl rfl ?_
  refine JV.insI (p2 := 7) rfl (Nat.le_of_ble_eq_true rfl) rfl rfl (Nat.le_of_ble_eq_true rfl) rfl (ev_X6_isOutside (by omega) rfl) rfl ?_
  by_cases h7 : (x_X6_isOutside p1 0 15) = true
  · rw [if_pos h7] at hx
    refine JV.brF (p2 := 10) rfl rfl rfl (bI_t h7) ?_
    subst hx
    exact JV.thr rfl (Nat.le_of_ble_eq_true rfl)
  · rw [if_neg h7] at hx
    refine JV.brT rfl rfl (bI_f h7) ?_
    refine JV.ald (p2 := 21) rfl rfl rfl ?_
    refine JV.getf (p2 := 24) rfl sy_X rfl rfl ?_
    refine JV.ild (p2 := 25) rfl rfl rfl ?_
    refine JV.invI (p2 := 28) rfl rfl rfl sy1_F (Nat.le_of_ble_eq_true rfl) rfl (sy1_ev0 (ev_X1_answer (by omega) hK.f1 rfl)) ?_
    subst hx
    exact JV.ret rfl (fun _ => rfl) rfl rfl
noncomputable def y_X6_event (m : Sys) (p1 : Int32) (p2 : Int32) : (Int32 ⊕ String) := (if (x_X6_isOutside p1 0 ((x_X2_kept (m 1)) - 1)) = true then (Sum.inr "java/lang/IndexOutOfBoundsException" : Int32 ⊕ String) else (if (x_X6_isOutside p2 0 2) = true then (Sum.inr "java/lang/IllegalArgumentException" : Int32 ⊕ String) else (Sum.inl (x_X2_answer (m 1) p1 p2) : Int32 ⊕ String)))
theorem xe_X6_event : ∃ f, f = y_X6_event := ⟨y_X6_event, rfl⟩
noncomputable def x_X6_event := Classical.choose xe_X6_event
theorem x_X6_event_eq : x_X6_event = y_X6_event := Classical.choose_spec xe_X6_event
noncomputable def y_X6_why (m : Sys) (p1 : Int32) : (Int32 ⊕ String) := (if (x_X1_hasAircraft (m 1) p1) = true then (Sum.inl (x_X1_reason (m 1) (ix p1)) : Int32 ⊕ String) else (Sum.inr "java/lang/IndexOutOfBoundsException" : Int32 ⊕ String))
theorem xe_X6_why : ∃ f, f = y_X6_why := ⟨y_X6_why, rfl⟩
noncomputable def x_X6_why := Classical.choose xe_X6_why
theorem x_X6_why_eq : x_X6_why = y_X6_why := Classical.choose_spec xe_X6_why
theorem ev_X6_why {bb : Nat} {d n c s : Nat} {m : Sys} {M : JM} {p1 : Int32} {B : Nat} {res : (Int32 ⊕ String)} (hd : 6 ≤ d) (hK : SK B m) (hB : B + 0 < 2147483648)  (hx : x_X6_why m p1 = res) : Ev mtab mcode d 74 [.ref (bb + 1), .int p1] (n, c, s, sy bb m M) (jO res) (jH res (n, c, s, sy bb m M) (n, c, s, sy bb m M)) := by
  obtain ⟨d, rfl⟩ : ∃ e, d = e + 1 := ⟨d - 1, by omega⟩
  rw [x_X6_why_eq] at hx
  unfold y_X6_why at hx
  refine jv_mkS (m := mX6_why) (cd := jcX6_why) rfl rfl (Nat.le_of_ble_eq_true rfl) (fun _ => trivial) (by omega) rfl ?_
  refine JV.ald (p2 := 1) rfl rfl rfl ?_
  refine JV.getf (p2 := 4) rfl sy_X rfl rfl ?_
  refine JV.ild (p2 := 5) rfl rfl rfl ?_
  refine JV.invI (p2 := 8) rfl rfl rfl sy1_F (Nat.le_of_ble_eq_true rfl) rfl (sy1_ev0 (ev_X1_hasAircraft (by omega) rfl)) ?_
  by_cases h8 : (x_X1_hasAircraft (m 1) p1) = true
  · rw [if_pos h8] at hx
    refine JV.brT rfl rfl (bI_t h8) ?_
    refine JV.ald (p2 := 22) rfl rfl rfl ?_
    refine JV.getf (p2 := 25) rfl sy_X rfl rfl ?_
    refine JV.ild (p2 := 26) rfl rfl rfl ?_
    have e9 := has_A hK.f1 h8
    have b9 := e9.2
    have c9 := hK.f1.na.2
    refine JV.invI (p2 := 29) rfl rfl rfl sy1_F (Nat.le_of_ble_eq_true rfl) rfl (sy1_ev0 (ev_X1_reason (q := (ix p1)) (by omega) e9.1 hK.f1 (by omega) rfl)) ?_
    subst hx
    exact JV.ret rfl (fun _ => rfl) rfl rfl
  · rw [if_neg h8] at hx
    refine JV.brF (p2 := 11) rfl rfl rfl (fun e => e (bI_f h8)) ?_
    subst hx
    exact JV.thr rfl (Nat.le_of_ble_eq_true rfl)
noncomputable def y_X6_append (m : Sys) (p1 : Int32) : Sys × (Int32 ⊕ String) := (if (x_X6_isOutside p1 0 127) = true then (m, (Sum.inr "java/lang/IllegalArgumentException" : Int32 ⊕ String)) else (if (m 7 0 0 0) < 90 then ((us m 7 (x_X4_add (m 7) p1)), (Sum.inl ((us m 7 (x_X4_add (m 7) p1)) 7 0 0 0) : Int32 ⊕ String)) else (m, (Sum.inr "java/lang/IllegalStateException" : Int32 ⊕ String))))
theorem xe_X6_append : ∃ f, f = y_X6_append := ⟨y_X6_append, rfl⟩
noncomputable def x_X6_append := Classical.choose xe_X6_append
theorem x_X6_append_eq : x_X6_append = y_X6_append := Classical.choose_spec xe_X6_append
noncomputable def y_X6_clearText (m : Sys) : Sys × Int32 := ((us m 7 (up3 (m 7) 0 0 0 0)), (m 7 0 0 0))
theorem xe_X6_clearText : ∃ f, f = y_X6_clearText := ⟨y_X6_clearText, rfl⟩
noncomputable def x_X6_clearText := Classical.choose xe_X6_clearText
theorem x_X6_clearText_eq : x_X6_clearText = y_X6_clearText := Classical.choose_spec xe_X6_clearText
noncomputable def y_X6_minutesToAll (m : Sys) : Sys × Int32 := ((us (us m 2 (x_X1_copyFrom (m 2) (m 1))) 2 (x_X1_passUntilAllGone ((us m 2 (x_X1_copyFrom (m 2) (m 1))) 2)).1), (x_X1_passUntilAllGone ((us m 2 (x_X1_copyFrom (m 2) (m 1))) 2)).2)
theorem xe_X6_minutesToAll : ∃ f, f = y_X6_minutesToAll := ⟨y_X6_minutesToAll, rfl⟩
noncomputable def x_X6_minutesToAll := Classical.choose xe_X6_minutesToAll
theorem x_X6_minutesToAll_eq : x_X6_minutesToAll = y_X6_minutesToAll := Classical.choose_spec xe_X6_minutesToAll
theorem ev_X6_minutesToAll {bb : Nat} {d n c s : Nat} {m : Sys} {M : JM} {B : Nat} {res : Sys × Int32} (hd : 6 ≤ d) (hK : SK B m) (hB : B + 117000 < 2147483648)  (hx : x_X6_minutesToAll m = res) : Ev mtab mcode d 76 [.ref (bb + 1)] (n, c, s, sy bb m M) (.inl (some (.int res.2))) (n, c, s, sy bb res.1 M) := by
  obtain ⟨d, rfl⟩ : ∃ e, d = e + 1 := ⟨d - 1, by omega⟩
  rw [x_X6_minutesToAll_eq] at hx
  unfold y_X6_minutesToAll at hx
  refine jv_mk (m := mX6_minutesToAll) (cd := jcX6_minutesToAll) rfl rfl (Nat.le_of_ble_eq_true rfl) trivial ?_
  refine JV.ald (p2 := 1) rfl rfl rfl ?_
  refine JV.getf (p2 := 4) rfl sy_X rfl rfl ?_
  refine JV.ald (p2 := 5) rfl rfl rfl ?_
  refine JV.getf (p2 := 8) rfl sy_X rfl rfl ?_
  refine JV.inv0 (p2 := 11) rfl rfl rfl sy2_F (Nat.le_of_ble_eq_true rfl) rfl (sy2_ev (ev_X1_copyFrom (by omega) hK.f1 sy_21 rfl)) ?_
  refine JV.ald (p2 := 12) rfl rfl rfl ?_
  refine JV.getf (p2 := 15) rfl sy_X rfl rfl ?_
  refine JV.invI (p2 := 18) rfl rfl rfl sy2_F (Nat.le_of_ble_eq_true rfl) rfl (sy2_ev (ev_X1_passUntilAllGone (by omega) (sk_cp hK) (by omega) rfl)) ?_
  subst hx
  exact JV.ret rfl (fun _ => rfl) rfl rfl
noncomputable def y_X6_delaysWithTug (m : Sys) (p1 : Int32) : Sys × (Int32 ⊕ String) := (if (x_X6_isOutside p1 1 3) = true then (m, (Sum.inr "java/lang/IllegalArgumentException" : Int32 ⊕ String)) else (if (m 1 0 0 1) < 3 then (if (x_X1_passUntilAllGone ((us (us m 2 (x_X1_copyFrom (m 2) (m 1))) 2 (x_X1_addTug ((us m 2 (x_X1_copyFrom (m 2) (m 1))) 2) p1)) 2)).2 = (-1) then ((us (us (us m 2 (x_X1_copyFrom (m 2) (m 1))) 2 (x_X1_addTug ((us m 2 (x_X1_copyFrom (m 2) (m 1))) 2) p1)) 2 (x_X1_passUntilAllGone ((us (us m 2 (x_X1_copyFrom (m 2) (m 1))) 2 (x_X1_addTug ((us m 2 (x_X1_copyFrom (m 2) (m 1))) 2) p1)) 2)).1), (Sum.inl (-1) : Int32 ⊕ String)) else ((us (us (us m 2 (x_X1_copyFrom (m 2) (m 1))) 2 (x_X1_addTug ((us m 2 (x_X1_copyFrom (m 2) (m 1))) 2) p1)) 2 (x_X1_passUntilAllGone ((us (us m 2 (x_X1_copyFrom (m 2) (m 1))) 2 (x_X1_addTug ((us m 2 (x_X1_copyFrom (m 2) (m 1))) 2) p1)) 2)).1), (Sum.inl (x_X1_sumOfDelays ((us (us (us m 2 (x_X1_copyFrom (m 2) (m 1))) 2 (x_X1_addTug ((us m 2 (x_X1_copyFrom (m 2) (m 1))) 2) p1)) 2 (x_X1_passUntilAllGone ((us (us m 2 (x_X1_copyFrom (m 2) (m 1))) 2 (x_X1_addTug ((us m 2 (x_X1_copyFrom (m 2) (m 1))) 2) p1)) 2)).1) 2)) : Int32 ⊕ String))) else (m, (Sum.inl (-1) : Int32 ⊕ String))))
theorem xe_X6_delaysWithTug : ∃ f, f = y_X6_delaysWithTug := ⟨y_X6_delaysWithTug, rfl⟩
noncomputable def x_X6_delaysWithTug := Classical.choose xe_X6_delaysWithTug
theorem x_X6_delaysWithTug_eq : x_X6_delaysWithTug = y_X6_delaysWithTug := Classical.choose_spec xe_X6_delaysWithTug
