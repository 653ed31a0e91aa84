theorem sub64 : ∀ n : Nat, n < 31 → ((nI n).toInt64 - 1).toInt = (n : Int) - 1 := by decide +kernel
theorem in_lt {x y : Int32} {k : Nat} (hy : VN k y) (hk : k < 31) (h : x_X7_in x.toInt64 0 (y.toInt64 - 1) = true) : x = nI (ix x) ∧ ix x < ix y := by
  obtain ⟨h1, h2⟩ := in_of h
  have b := hy.2
  rw [hy.1] at h2
  rw [Int64.lt_iff_toInt_lt, Int32.toInt_toInt64] at h1 h2
  rw [sub64 _ (by omega)] at h2
  have z : (0 : Int64).toInt = 0 := by decide
  have hx : ¬ x < 0 := fun q => by
    rw [Int32.lt_iff_toInt_lt] at q
    have z2 : (0 : Int32).toInt = 0 := by decide
    omega
  have e := ix_eq hx
  refine ⟨e, ?_⟩
  show x.toInt.toNat < ix y
  omega
theorem is_S {m : Mem} {x : Int32} (hF : MK m) (h : x_X7_isStand m x = true) : x = nI (ix x) ∧ ix x < ix (m 1 0 0) := by
  rw [x_X7_isStand_eq] at h
  exact in_lt hF.ns (by decide) h
theorem is_T {m : Mem} {x : Int32} (hF : MK m) (h : x_X7_isTug m x = true) : x = nI (ix x) ∧ ix x < ix (m 1 0 1) := by
  rw [x_X7_isTug_eq] at h
  exact in_lt hF.nt (by decide) h
theorem is_P {m : Mem} {x : Int32} (hF : MK m) (h : x_X7_isPlane m x = true) : x = nI (ix x) ∧ ix x < ix (m 1 0 2) := by
  rw [x_X7_isPlane_eq] at h
  exact in_lt hF.na (by decide) h
noncomputable def y_X7_setSpan (m : Mem) (p1 : Int32) (p2 : Int32) : Mem × Int32 := (if (x_X7_isStand m p1) = true then (if (x_X7_in ((p2).toInt64) 1 4) = true then ((x_X7_fine (up3 (x_X7_save m) 1 0 (8 + 2 * (ix p1) + 0) p2) ((x_X7_save m) 1 0 (8 + 2 * (ix p1) + 0))).1, (x_X7_fine (up3 (x_X7_save m) 1 0 (8 + 2 * (ix p1) + 0) p2) ((x_X7_save m) 1 0 (8 + 2 * (ix p1) + 0))).2) else ((x_X7_throwing m 2).1, (x_X7_throwing m 2).2)) else ((x_X7_throwing m 1).1, (x_X7_throwing m 1).2))
theorem xe_X7_setSpan : ∃ f, f = y_X7_setSpan := ⟨y_X7_setSpan, rfl⟩
noncomputable def x_X7_setSpan := Classical.choose xe_X7_setSpan
theorem x_X7_setSpan_eq : x_X7_setSpan = y_X7_setSpan := Classical.choose_spec xe_X7_setSpan
theorem ev_X7_setSpan {d n c s b : Nat} {m : Mem} {M : JM} {p1 : Int32} {p2 : Int32} {B : Nat} {m0 : Mem} {res : Mem × Int32} (hd : 3 ≤ d) (hW : MW B m0 m) (hB : B + 0 < 2147483648) (hs : VN 4 (m 0 0 0)) (hx : x_X7_setSpan m p1 p2 = res) : Ev mtab mcode d 107 [.ref b, .int p1, .int p2] (n, c, s, mm b m M) (.inl (some (.int res.2))) (n, c, s, mm b res.1 M) := by
  obtain ⟨d, rfl⟩ : ∃ e, d = e + 1 := ⟨d - 1, by omega⟩
  rw [x_X7_setSpan_eq] at hx
  unfold y_X7_setSpan at hx
  refine jv_mk (m := mX7_setSpan) (cd := jcX7_setSpan) rfl rfl (Nat.le_of_ble_eq_true rfl) trivial ?_
  refine JV.ald (p2 := 1) rfl rfl rfl ?_
  refine JV.ild (p2 := 2) rfl rfl rfl ?_
  refine JV.invI (p2 := 5) rfl rfl rfl mm_M (Nat.le_of_ble_eq_true rfl) rfl (ev_X7_isStand (by omega) rfl) ?_
  by_cases h5 : (x_X7_isStand m p1) = true
  · rw [if_pos h5] at hx
    refine JV.brT rfl rfl (bI_t h5) ?_
    have e14 := is_S hW.1 h5
    have b14 := e14.2
    have c14 := hW.1.ns.2
    refine JV.ild (p2 := 15) rfl rfl rfl ?_
    refine JV.stk (len := 1) (sem := s_i2l) (p2 := 16) rfl rfl rfl ?_
    refine JV.stk (len := 1) (sem := (s_push (.long 1))) (p2 := 17) rfl rfl rfl ?_
    refine JV.ldc2 (p2 := 20) rfl rfl ?_
    refine JV.insI (p2 := 23) rfl (Nat.le_of_ble_eq_true rfl) rfl rfl (Nat.le_of_ble_eq_true rfl) rfl (ev_X7_in (by omega) rfl) rfl ?_
    by_cases h23 : (x_X7_in ((p2).toInt64) 1 4) = true
    · rw [if_pos h23] at hx
      refine JV.brT rfl rfl (bI_t h23) ?_
      refine JV.ald (p2 := 33) rfl rfl rfl ?_
      refine JV.inv0 (p2 := 36) rfl rfl rfl mm_M (Nat.le_of_ble_eq_true rfl) rfl (ev_X7_save (by omega) hW (by omega) hs rfl) ?_
      refine JV.ald (p2 := 37) rfl rfl rfl ?_
      refine JV.getf (p2 := 40) rfl mm_M rfl rfl ?_
      refine JV.ild (p2 := 41) rfl rfl rfl ?_
      refine JV.stk (len := 1) (sem := (s_push (.int 0))) (p2 := 42) rfl rfl rfl ?_
      refine JV.insI (p2 := 45) rfl (Nat.le_of_ble_eq_true rfl) rfl rfl (Nat.le_of_ble_eq_true rfl) rfl (ev_X7_standAt (by omega) rfl) rfl ?_
      refine JV.iald (p2 := 46) (j := (8 + 2 * (ix p1) + 0)) rfl mm_1 (sa_at e14.1 rfl) (by omega) (by decide) rfl ?_
      refine JV.ist (p2 := 47) rfl rfl rfl ?_
      refine JV.ald (p2 := 48) rfl rfl rfl ?_
      refine JV.getf (p2 := 51) rfl mm_M rfl rfl ?_
      refine JV.ild (p2 := 52) rfl rfl rfl ?_
      refine JV.stk (len := 1) (sem := (s_push (.int 0))) (p2 := 53) rfl rfl rfl ?_
      refine JV.insI (p2 := 56) rfl (Nat.le_of_ble_eq_true rfl) rfl rfl (Nat.le_of_ble_eq_true rfl) rfl (ev_X7_standAt (by omega) rfl) rfl ?_
      refine JV.ild (p2 := 57) rfl rfl rfl ?_
      refine JV.iast (p2 := 58) (j := (8 + 2 * (ix p1) + 0)) rfl mm_1 (sa_at e14.1 rfl) (by omega) (by decide) (mm_w1 (k := (8 + 2 * (ix p1) + 0)) rfl) rfl ?_
      refine JV.ald (p2 := 59) rfl rfl rfl ?_
      refine JV.ild (p2 := 60) rfl rfl rfl ?_
      refine JV.invI (p2 := 63) rfl rfl rfl mm_M (Nat.le_of_ble_eq_true rfl) rfl (ev_X7_fine (by omega) rfl) ?_
      subst hx
      exact JV.ret rfl (fun _ => rfl) rfl rfl
    · rw [if_neg h23] at hx
      refine JV.brF (p2 := 26) rfl rfl rfl (fun e => e (bI_f h23)) ?_
      refine JV.ald (p2 := 27) rfl rfl rfl ?_
      refine JV.stk (len := 1) (sem := (s_push (.int 2))) (p2 := 28) rfl rfl rfl ?_
      refine JV.invI (p2 := 31) rfl rfl rfl mm_M (Nat.le_of_ble_eq_true rfl) rfl (ev_X7_throwing (by omega) rfl) ?_
      subst hx
      exact JV.ret rfl (fun _ => rfl) rfl rfl
  · rw [if_neg h5] at hx
    refine JV.brF (p2 := 8) rfl rfl rfl (fun e => e (bI_f h5)) ?_
    refine JV.ald (p2 := 9) rfl rfl rfl ?_
    refine JV.stk (len := 1) (sem := (s_push (.int 1))) (p2 := 10) rfl rfl rfl ?_
    refine JV.invI (p2 := 13) rfl rfl rfl mm_M (Nat.le_of_ble_eq_true rfl) rfl (ev_X7_throwing (by omega) rfl) ?_
    subst hx
    exact JV.ret rfl (fun _ => rfl) rfl rfl
noncomputable def y_X7_setStrength (m : Mem) (p1 : Int32) (p2 : Int32) : Mem × Int32 := (if (x_X7_isTug m p1) = true then (if (x_X7_in ((p2).toInt64) 1 3) = true then ((x_X7_fine (up3 (x_X7_save m) 1 0 (20 + 5 * (ix p1) + 0) p2) ((x_X7_save m) 1 0 (20 + 5 * (ix p1) + 0))).1, (x_X7_fine (up3 (x_X7_save m) 1 0 (20 + 5 * (ix p1) + 0) p2) ((x_X7_save m) 1 0 (20 + 5 * (ix p1) + 0))).2) else ((x_X7_throwing m 2).1, (x_X7_throwing m 2).2)) else ((x_X7_throwing m 1).1, (x_X7_throwing m 1).2))
theorem xe_X7_setStrength : ∃ f, f = y_X7_setStrength := ⟨y_X7_setStrength, rfl⟩
noncomputable def x_X7_setStrength := Classical.choose xe_X7_setStrength
theorem x_X7_setStrength_eq : x_X7_setStrength = y_X7_setStrength := Classical.choose_spec xe_X7_setStrength
theorem ev_X7_setStrength {d n c s b : Nat} {m : Mem} {M : JM} {p1 : Int32} {p2 : Int32} {B : Nat} {m0 : Mem} {res : Mem × Int32} (hd : 3 ≤ d) (hW : MW B m0 m) (hB : B + 0 < 2147483648) (hs : VN 4 (m 0 0 0)) (hx : x_X7_setStrength m p1 p2 = res) : Ev mtab mcode d 108 [.ref b, .int p1, .int p2] (n, c, s, mm b m M) (.inl (some (.int res.2))) (n, c, s, mm b res.1 M) := by
  obtain ⟨d, rfl⟩ : ∃ e, d = e + 1 := ⟨d - 1, by omega⟩
  rw [x_X7_setStrength_eq] at hx
  unfold y_X7_setStrength at hx
  refine jv_mk (m := mX7_setStrength) (cd := jcX7_setStrength) rfl rfl (Nat.le_of_ble_eq_true rfl) trivial ?_
  refine JV.ald (p2 := 1) rfl rfl rfl ?_
  refine JV.ild (p2 := 2) rfl rfl rfl ?_
  refine JV.invI (p2 := 5) rfl rfl rfl mm_M (Nat.le_of_ble_eq_true rfl) rfl (ev_X7_isTug (by omega) rfl) ?_
  by_cases h5 : (x_X7_isTug m p1) = true
  · rw [if_pos h5] at hx
    refine JV.brT rfl rfl (bI_t h5) ?_
    have e14 := is_T hW.1 h5
    have b14 := e14.2
    have c14 := hW.1.nt.2
    refine JV.ild (p2 := 15) rfl rfl rfl ?_
    refine JV.stk (len := 1) (sem := s_i2l) (p2 := 16) rfl rfl rfl ?_
    refine JV.stk (len := 1) (sem := (s_push (.long 1))) (p2 := 17) rfl rfl rfl ?_
    refine JV.ldc2 (p2 := 20) rfl rfl ?_
    refine JV.insI (p2 := 23) rfl (Nat.le_of_ble_eq_true rfl) rfl rfl (Nat.le_of_ble_eq_true rfl) rfl (ev_X7_in (by omega) rfl) rfl ?_
    by_cases h23 : (x_X7_in ((p2).toInt64) 1 3) = true
    · rw [if_pos h23] at hx
      refine JV.brT rfl rfl (bI_t h23) ?_
      refine JV.ald (p2 := 33) rfl rfl rfl ?_
      refine JV.inv0 (p2 := 36) rfl rfl rfl mm_M (Nat.le_of_ble_eq_true rfl) rfl (ev_X7_save (by omega) hW (by omega) hs rfl) ?_
      refine JV.ald (p2 := 37) rfl rfl rfl ?_
      refine JV.getf (p2 := 40) rfl mm_M rfl rfl ?_
      refine JV.ild (p2 := 41) rfl rfl rfl ?_
      refine JV.stk (len := 1) (sem := (s_push (.int 0))) (p2 := 42) rfl rfl rfl ?_
      refine JV.insI (p2 := 45) rfl (Nat.le_of_ble_eq_true rfl) rfl rfl (Nat.le_of_ble_eq_true rfl) rfl (ev_X7_tugAt (by omega) rfl) rfl ?_
      refine JV.iald (p2 := 46) (j := (20 + 5 * (ix p1) + 0)) rfl mm_1 (ta_at e14.1 rfl) (by omega) (by decide) rfl ?_
      refine JV.ist (p2 := 47) rfl rfl rfl ?_
      refine JV.ald (p2 := 48) rfl rfl rfl ?_
      refine JV.getf (p2 := 51) rfl mm_M rfl rfl ?_
      refine JV.ild (p2 := 52) rfl rfl rfl ?_
      refine JV.stk (len := 1) (sem := (s_push (.int 0))) (p2 := 53) rfl rfl rfl ?_
      refine JV.insI (p2 := 56) rfl (Nat.le_of_ble_eq_true rfl) rfl rfl (Nat.le_of_ble_eq_true rfl) rfl (ev_X7_tugAt (by omega) rfl) rfl ?_
      refine JV.ild (p2 := 57) rfl rfl rfl ?_
      refine JV.iast (p2 := 58) (j := (20 + 5 * (ix p1) + 0)) rfl mm_1 (ta_at e14.1 rfl) (by omega) (by decide) (mm_w1 (k := (20 + 5 * (ix p1) + 0)) rfl) rfl ?_
      refine JV.ald (p2 := 59) rfl rfl rfl ?_
      refine JV.ild (p2 := 60) rfl rfl rfl ?_
      refine JV.invI (p2 := 63) rfl rfl rfl mm_M (Nat.le_of_ble_eq_true rfl) rfl (ev_X7_fine (by omega) rfl) ?_
      subst hx
      exact JV.ret rfl (fun _ => rfl) rfl rfl
    · rw [if_neg h23] at hx
      refine JV.brF (p2 := 26) rfl rfl rfl (fun e => e (bI_f h23)) ?_
      refine JV.ald (p2 := 27) rfl rfl rfl ?_
      refine JV.stk (len := 1) (sem := (s_push (.int 2))) (p2 := 28) rfl rfl rfl ?_
      refine JV.invI (p2 := 31) rfl rfl rfl mm_M (Nat.le_of_ble_eq_true rfl) rfl (ev_X7_throwing (by omega) rfl) ?_
      subst hx
      exact JV.ret rfl (fun _ => rfl) rfl rfl
  · rw [if_neg h5] at hx
    refine JV.brF (p2 := 8) rfl rfl rfl (fun e => e (bI_f h5)) ?_
    refine JV.ald (p2 := 9) rfl rfl rfl ?_
    refine JV.stk (len := 1) (sem := (s_push (.int 1))) (p2 := 10) rfl rfl rfl ?_
    refine JV.invI (p2 := 13) rfl rfl rfl mm_M (Nat.le_of_ble_eq_true rfl) rfl (ev_X7_throwing (by omega) rfl) ?_
    subst hx
    exact JV.ret rfl (fun _ => rfl) rfl rfl
noncomputable def y_X7_setLeaves (m : Mem) (p1 : Int32) (p2 : Int32) : Mem × Int32 := (if (x_X7_isPlane m p1) = true then (if (x_X7_of m (ix p1) 2) < p2 then (if 1999 < p2 then ((x_X7_throwing m 2).1, (x_X7_throwing m 2).2) else (if (x_X7_of m (ix p1) 5) < 4 then ((x_X7_fine (up3 (x_X7_save m) 1 0 (35 + 10 * (ix p1) + 3) p2) (x_X7_of (x_X7_save m) (ix p1) 3)).1, (x_X7_fine (up3 (x_X7_save m) 1 0 (35 + 10 * (ix p1) + 3) p2) (x_X7_of (x_X7_save m) (ix p1) 3)).2) else ((x_X7_throwing m 3).1, (x_X7_throwing m 3).2))) else ((x_X7_throwing m 2).1, (x_X7_throwing m 2).2)) else ((x_X7_throwing m 1).1, (x_X7_throwing m 1).2))
theorem xe_X7_setLeaves : ∃ f, f = y_X7_setLeaves := ⟨y_X7_setLeaves, rfl⟩
noncomputable def x_X7_setLeaves := Classical.choose xe_X7_setLeaves
theorem x_X7_setLeaves_eq : x_X7_setLeaves = y_X7_setLeaves := Classical.choose_spec xe_X7_setLeaves
theorem ev_X7_setLeaves {d n c s b : Nat} {m : Mem} {M : JM} {p1 : Int32} {p2 : Int32} {B : Nat} {m0 : Mem} {res : Mem × Int32} (hd : 3 ≤ d) (hW : MW B m0 m) (hB : B + 0 < 2147483648) (hs : VN 4 (m 0 0 0)) (hx : x_X7_setLeaves m p1 p2 = res) : Ev mtab mcode d 112 [.ref b, .int p1, .int p2] (n, c, s, mm b m M) (.inl (some (.int res.2))) (n, c, s, mm b res.1 M) := by
  obtain ⟨d, rfl⟩ : ∃ e, d = e + 1 := ⟨d - 1, by omega⟩
  rw [x_X7_setLeaves_eq] at hx
  unfold y_X7_setLeaves at hx
  refine jv_mk (m := mX7_setLeaves) (cd := jcX7_setLeaves) rfl rfl (Nat.le_of_ble_eq_true rfl) trivial ?_
  refine JV.ald (p2 := 1) rfl rfl rfl ?_
  refine JV.ild (p2 := 2) rfl rfl rfl ?_
  refine JV.invI (p2 := 5) rfl rfl rfl mm_M (Nat.le_of_ble_eq_true rfl) rfl (ev_X7_isPlane (by omega) rfl) ?_
  by_cases h5 : (x_X7_isPlane m p1) = true
  · rw [if_pos h5] at hx
    refine JV.brT rfl rfl (bI_t h5) ?_
    have e14 := is_P hW.1 h5
    have b14 := e14.2
    have c14 := hW.1.na.2
    refine JV.ild (p2 := 15) rfl rfl rfl ?_
    refine JV.ald (p2 := 16) rfl rfl rfl ?_
    refine JV.ild (p2 := 17) rfl rfl rfl ?_
    refine JV.stk (len := 1) (sem := (s_push (.int 2))) (p2 := 18) rfl rfl rfl ?_
    refine JV.invI (p2 := 21) rfl rfl rfl mm_M (Nat.le_of_ble_eq_true rfl) rfl (ev_X7_of (q := (ix p1)) (w := 2) (by omega) e14.1 rfl (by omega) (by omega) rfl) ?_
    by_cases h21 : (x_X7_of m (ix p1) 2) < p2
    · rw [if_pos h21] at hx
      refine JV.brF (p2 := 24) rfl rfl rfl (Int32.not_le.mpr h21) ?_
      refine JV.ild (p2 := 25) rfl rfl rfl ?_
      refine JV.stk (len := 3) (sem := (s_push (.int 1999))) (p2 := 28) rfl rfl rfl ?_
      by_cases h28 : 1999 < p2
      · rw [if_pos h28] at hx
        refine JV.brF (p2 := 31) rfl rfl rfl (Int32.not_le.mpr h28) ?_
        refine JV.ald (p2 := 32) rfl rfl rfl ?_
        refine JV.stk (len := 1) (sem := (s_push (.int 2))) (p2 := 33) rfl rfl rfl ?_
        refine JV.invI (p2 := 36) rfl rfl rfl mm_M (Nat.le_of_ble_eq_true rfl) rfl (ev_X7_throwing (by omega) rfl) ?_
        subst hx
        exact JV.ret rfl (fun _ => rfl) rfl rfl
      · rw [if_neg h28] at hx
        refine JV.brT rfl rfl (Int32.not_lt.mp h28) ?_
        refine JV.ald (p2 := 38) rfl rfl rfl ?_
        refine JV.ild (p2 := 39) rfl rfl rfl ?_
        refine JV.stk (len := 1) (sem := (s_push (.int 5))) (p2 := 40) rfl rfl rfl ?_
        refine JV.invI (p2 := 43) rfl rfl rfl mm_M (Nat.le_of_ble_eq_true rfl) rfl (ev_X7_of (q := (ix p1)) (w := 5) (by omega) e14.1 rfl (by omega) (by omega) rfl) ?_
        refine JV.stk (len := 1) (sem := (s_push (.int 4))) (p2 := 44) rfl rfl rfl ?_
        by_cases h44 : (x_X7_of m (ix p1) 5) < 4
        · rw [if_pos h44] at hx
          refine JV.brT rfl rfl h44 ?_
          refine JV.ald (p2 := 54) rfl rfl rfl ?_
          refine JV.inv0 (p2 := 57) rfl rfl rfl mm_M (Nat.le_of_ble_eq_true rfl) rfl (ev_X7_save (by omega) hW (by omega) hs rfl) ?_
          refine JV.ald (p2 := 58) rfl rfl rfl ?_
          refine JV.ild (p2 := 59) rfl rfl rfl ?_
          refine JV.stk (len := 1) (sem := (s_push (.int 3))) (p2 := 60) rfl rfl rfl ?_
          refine JV.invI (p2 := 63) rfl rfl rfl mm_M (Nat.le_of_ble_eq_true rfl) rfl (ev_X7_of (q := (ix p1)) (w := 3) (by omega) e14.1 rfl (by omega) (by omega) rfl) ?_
          refine JV.ist (p2 := 64) rfl rfl rfl ?_
          refine JV.ald (p2 := 65) rfl rfl rfl ?_
          refine JV.getf (p2 := 68) rfl mm_M rfl rfl ?_
          refine JV.ild (p2 := 69) rfl rfl rfl ?_
          refine JV.stk (len := 1) (sem := (s_push (.int 3))) (p2 := 70) rfl rfl rfl ?_
          refine JV.insI (p2 := 73) rfl (Nat.le_of_ble_eq_true rfl) rfl rfl (Nat.le_of_ble_eq_true rfl) rfl (ev_X7_planeAt (by omega) rfl) rfl ?_
          refine JV.ild (p2 := 74) rfl rfl rfl ?_
          refine JV.iast (p2 := 75) (j := (35 + 10 * (ix p1) + 3)) rfl mm_1 (pa_at e14.1 rfl) (by omega) (by decide) (mm_w1 (k := (35 + 10 * (ix p1) + 3)) rfl) rfl ?_
          refine JV.ald (p2 := 76) rfl rfl rfl ?_
          refine JV.ild (p2 := 77) rfl rfl rfl ?_
          refine JV.invI (p2 := 80) rfl rfl rfl mm_M (Nat.le_of_ble_eq_true rfl) rfl (ev_X7_fine (by omega) rfl) ?_
          subst hx
          exact JV.ret rfl (fun _ => rfl) rfl rfl
        · rw [if_neg h44] at hx
          refine JV.brF (p2 := 47) rfl rfl rfl h44 ?_
          refine JV.ald (p2 := 48) rfl rfl rfl ?_
          refine JV.stk (len := 1) (sem := (s_push (.int 3))) (p2 := 49) rfl rfl rfl ?_
          refine JV.invI (p2 := 52) rfl rfl rfl mm_M (Nat.le_of_ble_eq_true rfl) rfl (ev_X7_throwing (by omega) rfl) ?_
          subst hx
          exact JV.ret rfl (fun _ => rfl) rfl rfl
    · rw [if_neg h21] at hx
      refine JV.brT rfl rfl (Int32.not_lt.mp h21) ?_
      refine JV.ald (p2 := 32) rfl rfl rfl ?_
      refine JV.stk (len := 1) (sem := (s_push (.int 2))) (p2 := 33) rfl rfl rfl ?_
      refine JV.invI (p2 := 36) rfl rfl rfl mm_M (Nat.le_of_ble_eq_true rfl) rfl (ev_X7_throwing (by omega) rfl) ?_
      subst hx
      exact JV.ret rfl (fun _ => rfl) rfl rfl
  · rw [if_neg h5] at hx
    refine JV.brF (p2 := 8) rfl rfl rfl (fun e => e (bI_f h5)) ?_
    refine JV.ald (p2 := 9) rfl rfl rfl ?_
    refine JV.stk (len := 1) (sem := (s_push (.int 1))) (p2 := 10) rfl rfl rfl ?_
    refine JV.invI (p2 := 13) rfl rfl rfl mm_M (Nat.le_of_ble_eq_true rfl) rfl (ev_X7_throwing (by omega) rfl) ?_
    subst hx
    exact JV.ret rfl (fun _ => rfl) rfl rfl
noncomputable def y_X7_aircraft (m : Mem) (p1 : Int32) (p2 : Int32) : Mem × Int32 := (if (x_X7_isPlane m p1) = true then (if (x_X7_in ((p2).toInt64) 0 9) = true then ((x_X7_fine m (x_X7_of m (ix p1) (ix p2))).1, (x_X7_fine m (x_X7_of m (ix p1) (ix p2))).2) else ((x_X7_throwing m 2).1, (x_X7_throwing m 2).2)) else ((x_X7_throwing m 1).1, (x_X7_throwing m 1).2))
theorem xe_X7_aircraft : ∃ f, f = y_X7_aircraft := ⟨y_X7_aircraft, rfl⟩
noncomputable def x_X7_aircraft := Classical.choose xe_X7_aircraft
theorem x_X7_aircraft_eq : x_X7_aircraft = y_X7_aircraft := Classical.choose_spec xe_X7_aircraft
theorem ev_X7_aircraft {d n c s b : Nat} {m : Mem} {M : JM} {p1 : Int32} {p2 : Int32} {B : Nat} {m0 : Mem} {res : Mem × Int32} (hd : 3 ≤ d) (hW : MW B m0 m) (hB : B + 0 < 2147483648) (hs : VN 4 (m 0 0 0)) (hx : x_X7_aircraft m p1 p2 = res) : Ev mtab mcode d 130 [.ref b, .int p1, .int p2] (n, c, s, mm b m M) (.inl (some (.int res.2))) (n, c, s, mm b res.1 M) := by
  obtain ⟨d, rfl⟩ : ∃ e, d = e + 1 := ⟨d - 1, by omega⟩
  rw [x_X7_aircraft_eq] at hx
  unfold y_X7_aircraft at hx
  refine jv_mk (m := mX7_aircraft) (cd := jcX7_aircraft) rfl rfl (Nat.le_of_ble_eq_true rfl) trivial ?_
  refine JV.ald (p2 := 1) rfl rfl rfl ?_
  refine JV.ild (p2 := 2) rfl rfl rfl ?_
  refine JV.invI (p2 := 5) rfl rfl rfl mm_M (Nat.le_of_ble_eq_true rfl) rfl (ev_X7_isPlane (by omega) rfl) ?_
  by_cases h5 : (x_X7_isPlane m p1) = true
  · rw [if_pos h5] at hx
    refine JV.brT rfl rfl (bI_t h5) ?_
    have e14 := is_P hW.1 h5
    have b14 := e14.2
    have c14 := hW.1.na.2
    refine JV.ild (p2 := 15) rfl rfl rfl ?_
    refine JV.stk (len := 1) (sem := s_i2l) (p2 := 16) rfl rfl rfl ?_
    refine JV.stk (len := 1) (sem := (s_push (.long 0))) (p2 := 17) rfl rfl rfl ?_
    refine JV.ldc2 (p2 := 20) rfl rfl ?_
    refine JV.insI (p2 := 23) rfl (Nat.le_of_ble_eq_true rfl) rfl rfl (Nat.le_of_ble_eq_true rfl) rfl (ev_X7_in (by omega) rfl) rfl ?_
    by_cases h23 : (x_X7_in ((p2).toInt64) 0 9) = true
    · rw [if_pos h23] at hx
      refine JV.brF (p2 := 26) rfl rfl rfl (bI_t h23) ?_
      have e26 := in_VNk (k := 9) (M := 9) (by decide) (by decide) (by decide) h23 (by decide)
      have b26 := e26.2
      refine JV.ald (p2 := 27) rfl rfl rfl ?_
      refine JV.ald (p2 := 28) rfl rfl rfl ?_
      refine JV.ild (p2 := 29) rfl rfl rfl ?_
      refine JV.ild (p2 := 30) rfl rfl rfl ?_
      refine JV.invI (p2 := 33) rfl rfl rfl mm_M (Nat.le_of_ble_eq_true rfl) rfl (ev_X7_of (q := (ix p1)) (w := (ix p2)) (by omega) e14.1 e26.1 (by omega) (by omega) rfl) ?_
      refine JV.invI (p2 := 36) rfl rfl rfl mm_M (Nat.le_of_ble_eq_true rfl) rfl (ev_X7_fine (by omega) rfl) ?_
      refine JV.goto rfl ?_
      subst hx
      exact JV.ret rfl (fun _ => rfl) rfl rfl
    · rw [if_neg h23] at hx
      refine JV.brT rfl rfl (bI_f h23) ?_
      refine JV.ald (p2 := 40) rfl rfl rfl ?_
      refine JV.stk (len := 1) (sem := (s_push (.int 2))) (p2 := 41) rfl rfl rfl ?_
      refine JV.invI (p2 := 44) rfl rfl rfl mm_M (Nat.le_of_ble_eq_true rfl) rfl (ev_X7_throwing (by omega) rfl) ?_
      subst hx
      exact JV.ret rfl (fun _ => rfl) rfl rfl
  · rw [if_neg h5] at hx
    refine JV.brF (p2 := 8) rfl rfl rfl (fun e => e (bI_f h5)) ?_
    refine JV.ald (p2 := 9) rfl rfl rfl ?_
    refine JV.stk (len := 1) (sem := (s_push (.int 1))) (p2 := 10) rfl rfl rfl ?_
    refine JV.invI (p2 := 13) rfl rfl rfl mm_M (Nat.le_of_ble_eq_true rfl) rfl (ev_X7_throwing (by omega) rfl) ?_
    subst hx
    exact JV.ret rfl (fun _ => rfl) rfl rfl
noncomputable def y_X7_stand (m : Mem) (p1 : Int32) (p2 : Int32) : Mem × Int32 := (if (x_X7_isStand m p1) = true then (if (x_X7_in ((p2).toInt64) 0 3) = true then ((x_X7_fine m (x_X7_standOf m (ix p1) p2)).1, (x_X7_fine m (x_X7_standOf m (ix p1) p2)).2) else ((x_X7_throwing m 2).1, (x_X7_throwing m 2).2)) else ((x_X7_throwing m 1).1, (x_X7_throwing m 1).2))
theorem xe_X7_stand : ∃ f, f = y_X7_stand := ⟨y_X7_stand, rfl⟩
noncomputable def x_X7_stand := Classical.choose xe_X7_stand
theorem x_X7_stand_eq : x_X7_stand = y_X7_stand := Classical.choose_spec xe_X7_stand
theorem ev_X7_stand {d n c s b : Nat} {m : Mem} {M : JM} {p1 : Int32} {p2 : Int32} {B : Nat} {m0 : Mem} {res : Mem × Int32} (hd : 6 ≤ d) (hW : MW B m0 m) (hB : B + 0 < 2147483648) (hs : VN 4 (m 0 0 0)) (hx : x_X7_stand m p1 p2 = res) : Ev mtab mcode d 132 [.ref b, .int p1, .int p2] (n, c, s, mm b m M) (.inl (some (.int res.2))) (n, c, s, mm b res.1 M) := by
  obtain ⟨d, rfl⟩ : ∃ e, d = e + 1 := ⟨d - 1, by omega⟩
  rw [x_X7_stand_eq] at hx
  unfold y_X7_stand at hx
  refine jv_mk (m := mX7_stand) (cd := jcX7_stand) rfl rfl (Nat.le_of_ble_eq_true rfl) trivial ?_
  refine JV.ald (p2 := 1) rfl rfl rfl ?_
  refine JV.ild (p2 := 2) rfl rfl rfl ?_
  refine JV.invI (p2 := 5) rfl rfl rfl mm_M (Nat.le_of_ble_eq_true rfl) rfl (ev_X7_isStand (by omega) rfl) ?_
  by_cases h5 : (x_X7_isStand m p1) = true
  · rw [if_pos h5] at hx
    refine JV.brT rfl rfl (bI_t h5) ?_
    have e14 := is_S hW.1 h5
    have b14 := e14.2
    have c14 := hW.1.ns.2
    refine JV.ild (p2 := 15) rfl rfl rfl ?_
    refine JV.stk (len := 1) (sem := s_i2l) (p2 := 16) rfl rfl rfl ?_
    refine JV.stk (len := 1) (sem := (s_push (.long 0))) (p2 := 17) rfl rfl rfl ?_
    refine JV.ldc2 (p2 := 20) rfl rfl ?_
    refine JV.insI (p2 := 23) rfl (Nat.le_of_ble_eq_true rfl) rfl rfl (Nat.le_of_ble_eq_true rfl) rfl (ev_X7_in (by omega) rfl) rfl ?_
    by_cases h23 : (x_X7_in ((p2).toInt64) 0 3) = true
    · rw [if_pos h23] at hx
      refine JV.brF (p2 := 26) rfl rfl rfl (bI_t h23) ?_
      have e26 := in_VNk (k := 3) (M := 3) (by decide) (by decide) (by decide) h23 (by decide)
      have b26 := e26.2
      refine JV.ald (p2 := 27) rfl rfl rfl ?_
      refine JV.ald (p2 := 28) rfl rfl rfl ?_
      refine JV.ild (p2 := 29) rfl rfl rfl ?_
      refine JV.ild (p2 := 30) rfl rfl rfl ?_
      refine JV.invI (p2 := 33) rfl rfl rfl mm_M (Nat.le_of_ble_eq_true rfl) rfl (ev_X7_standOf (q := (ix p1)) (by omega) e14.1 hW.1 (by omega) rfl) ?_
      refine JV.invI (p2 := 36) rfl rfl rfl mm_M (Nat.le_of_ble_eq_true rfl) rfl (ev_X7_fine (by omega) rfl) ?_
      refine JV.goto rfl ?_
      subst hx
      exact JV.ret rfl (fun _ => rfl) rfl rfl
    · rw [if_neg h23] at hx
      refine JV.brT rfl rfl (bI_f h23) ?_
      refine JV.ald (p2 := 40) rfl rfl rfl ?_
      refine JV.stk (len := 1) (sem := (s_push (.int 2))) (p2 := 41) rfl rfl rfl ?_
      refine JV.invI (p2 := 44) rfl rfl rfl mm_M (Nat.le_of_ble_eq_true rfl) rfl (ev_X7_throwing (by omega) rfl) ?_
      subst hx
      exact JV.ret rfl (fun _ => rfl) rfl rfl
  · rw [if_neg h5] at hx
    refine JV.brF (p2 := 8) rfl rfl rfl (fun e => e (bI_f h5)) ?_
    refine JV.ald (p2 := 9) rfl rfl rfl ?_
    refine JV.stk (len := 1) (sem := (s_push (.int 1))) (p2 := 10) rfl rfl rfl ?_
    refine JV.invI (p2 := 13) rfl rfl rfl mm_M (Nat.le_of_ble_eq_true rfl) rfl (ev_X7_throwing (by omega) rfl) ?_
    subst hx
    exact JV.ret rfl (fun _ => rfl) rfl rfl
noncomputable def y_X7_tug (m : Mem) (p1 : Int32) (p2 : Int32) : Mem × Int32 := (if (x_X7_isTug m p1) = true then (if (x_X7_in ((p2).toInt64) 0 4) = true then ((x_X7_fine m (m 1 0 (20 + 5 * (ix p1) + (ix p2)))).1, (x_X7_fine m (m 1 0 (20 + 5 * (ix p1) + (ix p2)))).2) else ((x_X7_throwing m 2).1, (x_X7_throwing m 2).2)) else ((x_X7_throwing m 1).1, (x_X7_throwing m 1).2))
theorem xe_X7_tug : ∃ f, f = y_X7_tug := ⟨y_X7_tug, rfl⟩
noncomputable def x_X7_tug := Classical.choose xe_X7_tug
theorem x_X7_tug_eq : x_X7_tug = y_X7_tug := Classical.choose_spec xe_X7_tug
theorem ev_X7_tug {d n c s b : Nat} {m : Mem} {M : JM} {p1 : Int32} {p2 : Int32} {B : Nat} {m0 : Mem} {res : Mem × Int32} (hd : 3 ≤ d) (hW : MW B m0 m) (hB : B + 0 < 2147483648) (hs : VN 4 (m 0 0 0)) (hx : x_X7_tug m p1 p2 = res) : Ev mtab mcode d 133 [.ref b, .int p1, .int p2] (n, c, s, mm b m M) (.inl (some (.int res.2))) (n, c, s, mm b res.1 M) := by
  obtain ⟨d, rfl⟩ : ∃ e, d = e + 1 := ⟨d - 1, by omega⟩
  rw [x_X7_tug_eq] at hx
  unfold y_X7_tug at hx
  refine jv_mk (m := mX7_tug) (cd := jcX7_tug) rfl rfl (Nat.le_of_ble_eq_true rfl) trivial ?_
  refine JV.ald (p2 := 1) rfl rfl rfl ?_
  refine JV.ild (p2 := 2) rfl rfl rfl ?_
  refine JV.invI (p2 := 5) rfl rfl rfl mm_M (Nat.le_of_ble_eq_true rfl) rfl (ev_X7_isTug (by omega) rfl) ?_
  by_cases h5 : (x_X7_isTug m p1) = true
  · rw [if_pos h5] at hx
    refine JV.brT rfl rfl (bI_t h5) ?_
    have e14 := is_T hW.1 h5
    have b14 := e14.2
    have c14 := hW.1.nt.2
    refine JV.ild (p2 := 15) rfl rfl rfl ?_
    refine JV.stk (len := 1) (sem := s_i2l) (p2 := 16) rfl rfl rfl ?_
    refine JV.stk (len := 1) (sem := (s_push (.long 0))) (p2 := 17) rfl rfl rfl ?_
    refine JV.ldc2 (p2 := 20) rfl rfl ?_
    refine JV.insI (p2 := 23) rfl (Nat.le_of_ble_eq_true rfl) rfl rfl (Nat.le_of_ble_eq_true rfl) rfl (ev_X7_in (by omega) rfl) rfl ?_
    by_cases h23 : (x_X7_in ((p2).toInt64) 0 4) = true
    · rw [if_pos h23] at hx
      refine JV.brF (p2 := 26) rfl rfl rfl (bI_t h23) ?_
      have e26 := in_VNk (k := 4) (M := 4) (by decide) (by decide) (by decide) h23 (by decide)
      have b26 := e26.2
      refine JV.ald (p2 := 27) rfl rfl rfl ?_
      refine JV.ald (p2 := 28) rfl rfl rfl ?_
      refine JV.getf (p2 := 31) rfl mm_M rfl rfl ?_
      refine JV.ild (p2 := 32) rfl rfl rfl ?_
      refine JV.ild (p2 := 33) rfl rfl rfl ?_
      refine JV.insI (p2 := 36) rfl (Nat.le_of_ble_eq_true rfl) rfl rfl (Nat.le_of_ble_eq_true rfl) rfl (ev_X7_tugAt (by omega) rfl) rfl ?_
      refine JV.iald (p2 := 37) (j := (20 + 5 * (ix p1) + (ix p2))) rfl mm_1 (ta_at e14.1 e26.1) (by omega) (by decide) rfl ?_
      refine JV.invI (p2 := 40) rfl rfl rfl mm_M (Nat.le_of_ble_eq_true rfl) rfl (ev_X7_fine (by omega) rfl) ?_
      refine JV.goto rfl ?_
      subst hx
      exact JV.ret rfl (fun _ => rfl) rfl rfl
    · rw [if_neg h23] at hx
      refine JV.brT rfl rfl (bI_f h23) ?_
      refine JV.ald (p2 := 44) rfl rfl rfl ?_
      refine JV.stk (len := 1) (sem := (s_push (.int 2))) (p2 := 45) rfl rfl rfl ?_
      refine JV.invI (p2 := 48) rfl rfl rfl mm_M (Nat.le_of_ble_eq_true rfl) rfl (ev_X7_throwing (by omega) rfl) ?_
      subst hx
      exact JV.ret rfl (fun _ => rfl) rfl rfl
  · rw [if_neg h5] at hx
    refine JV.brF (p2 := 8) rfl rfl rfl (fun e => e (bI_f h5)) ?_
    refine JV.ald (p2 := 9) rfl rfl rfl ?_
    refine JV.stk (len := 1) (sem := (s_push (.int 1))) (p2 := 10) rfl rfl rfl ?_
    refine JV.invI (p2 := 13) rfl rfl rfl mm_M (Nat.le_of_ble_eq_true rfl) rfl (ev_X7_throwing (by omega) rfl) ?_
    subst hx
    exact JV.ret rfl (fun _ => rfl) rfl rfl
noncomputable def y_X7_value (m : Mem) (p1 : Int32) : Mem × Int32 := (if (x_X7_in ((p1).toInt64) 0 15) = true then ((x_X7_fine m (x_X7_valueOf m (ix p1))).1, (x_X7_fine m (x_X7_valueOf m (ix p1))).2) else ((x_X7_throwing m 1).1, (x_X7_throwing m 1).2))
theorem xe_X7_value : ∃ f, f = y_X7_value := ⟨y_X7_value, rfl⟩
noncomputable def x_X7_value := Classical.choose xe_X7_value
theorem x_X7_value_eq : x_X7_value = y_X7_value := Classical.choose_spec xe_X7_value
theorem ev_X7_value {d n c s b : Nat} {m : Mem} {M : JM} {p1 : Int32} {B : Nat} {m0 : Mem} {res : Mem × Int32} (hd : 5 ≤ d) (hW : MW B m0 m) (hB : B + 0 < 2147483648) (hx : x_X7_value m p1 = res) : Ev mtab mcode d 136 [.ref b, .int p1] (n, c, s, mm b m M) (.inl (some (.int res.2))) (n, c, s, mm b res.1 M) := by
  obtain ⟨d, rfl⟩ : ∃ e, d = e + 1 := ⟨d - 1, by omega⟩
  rw [x_X7_value_eq] at hx
  unfold y_X7_value at hx
  refine jv_mk (m := mX7_value) (cd := jcX7_value) rfl rfl (Nat.le_of_ble_eq_true rfl) trivial ?_
  refine JV.ild (p2 := 1) rfl rfl rfl ?_
  refine JV.stk (len := 1) (sem := s_i2l) (p2 := 2) rfl rfl rfl ?_
  refine JV.stk (len := 1) (sem := (s_push (.long 0))) (p2 := 3) rfl rfl rfl ?_
  refine JV.ldc2 (p2 := 6) rfl rfl ?_
  refine JV.insI (p2 := 9) rfl (Nat.le_of_ble_eq_true rfl) rfl rfl (Nat.le_of_ble_eq_true rfl) rfl (ev_X7_in (by omega) rfl) rfl ?_
  by_cases h9 : (x_X7_in ((p1).toInt64) 0 15) = true
  · rw [if_pos h9] at hx
    refine JV.brF (p2 := 12) rfl rfl rfl (bI_t h9) ?_
    have e12 := in_VNk (k := 15) (M := 15) (by decide) (by decide) (by decide) h9 (by decide)
    have b12 := e12.2
    refine JV.ald (p2 := 13) rfl rfl rfl ?_
    refine JV.ald (p2 := 14) rfl rfl rfl ?_
    refine JV.ild (p2 := 15) rfl rfl rfl ?_
    refine JV.invI (p2 := 18) rfl rfl rfl mm_M (Nat.le_of_ble_eq_true rfl) rfl (ev_X7_valueOf (w := (ix p1)) (by omega) e12.1 hW.1 (by omega) rfl) ?_
    refine JV.invI (p2 := 21) rfl rfl rfl mm_M (Nat.le_of_ble_eq_true rfl) rfl (ev_X7_fine (by omega) rfl) ?_
    refine JV.goto rfl ?_
    subst hx
    exact JV.ret rfl (fun _ => rfl) rfl rfl
  · rw [if_neg h9] at hx
    refine JV.brT rfl rfl (bI_f h9) ?_
    refine JV.ald (p2 := 25) rfl rfl rfl ?_
    refine JV.stk (len := 1) (sem := (s_push (.int 1))) (p2 := 26) rfl rfl rfl ?_
    refine JV.invI (p2 := 29) rfl rfl rfl mm_M (Nat.le_of_ble_eq_true rfl) rfl (ev_X7_throwing (by omega) rfl) ?_
    subst hx
    exact JV.ret rfl (fun _ => rfl) rfl rfl
noncomputable def y_X7_why (m : Mem) (p1 : Int32) : Mem × Int32 := (if (x_X7_isPlane m p1) = true then ((x_X7_fine m (x_X7_whyNot m (ix p1))).1, (x_X7_fine m (x_X7_whyNot m (ix p1))).2) else ((x_X7_throwing m 1).1, (x_X7_throwing m 1).2))
theorem xe_X7_why : ∃ f, f = y_X7_why := ⟨y_X7_why, rfl⟩
noncomputable def x_X7_why := Classical.choose xe_X7_why
theorem x_X7_why_eq : x_X7_why = y_X7_why := Classical.choose_spec xe_X7_why
theorem ev_X7_why {d n c s b : Nat} {m : Mem} {M : JM} {p1 : Int32} {B : Nat} {m0 : Mem} {res : Mem × Int32} (hd : 6 ≤ d) (hW : MW B m0 m) (hB : B + 0 < 2147483648) (hx : x_X7_why m p1 = res) : Ev mtab mcode d 138 [.ref b, .int p1] (n, c, s, mm b m M) (.inl (some (.int res.2))) (n, c, s, mm b res.1 M) := by
  obtain ⟨d, rfl⟩ : ∃ e, d = e + 1 := ⟨d - 1, by omega⟩
  rw [x_X7_why_eq] at hx
  unfold y_X7_why at hx
  refine jv_mk (m := mX7_why) (cd := jcX7_why) rfl rfl (Nat.le_of_ble_eq_true rfl) trivial ?_
  refine JV.ald (p2 := 1) rfl rfl rfl ?_
  refine JV.ild (p2 := 2) rfl rfl rfl ?_
  refine JV.invI (p2 := 5) rfl rfl rfl mm_M (Nat.le_of_ble_eq_true rfl) rfl (ev_X7_isPlane (by omega) rfl) ?_
  by_cases h5 : (x_X7_isPlane m p1) = true
  · rw [if_pos h5] at hx
    refine JV.brF (p2 := 8) rfl rfl rfl (bI_t h5) ?_
    have e8 := is_P hW.1 h5
    have b8 := e8.2
    have c8 := hW.1.na.2
    refine JV.ald (p2 := 9) rfl rfl rfl ?_
    refine JV.ald (p2 := 10) rfl rfl rfl ?_
    refine JV.ild (p2 := 11) rfl rfl rfl ?_
    refine JV.invI (p2 := 14) rfl rfl rfl mm_M (Nat.le_of_ble_eq_true rfl) rfl (ev_X7_whyNot (q := (ix p1)) (by omega) e8.1 hW.1 (by omega) rfl) ?_
    refine JV.invI (p2 := 17) rfl rfl rfl mm_M (Nat.le_of_ble_eq_true rfl) rfl (ev_X7_fine (by omega) rfl) ?_
    refine JV.goto rfl ?_
    subst hx
    exact JV.ret rfl (fun _ => rfl) rfl rfl
  · rw [if_neg h5] at hx
    refine JV.brT rfl rfl (bI_f h5) ?_
    refine JV.ald (p2 := 21) rfl rfl rfl ?_
    refine JV.stk (len := 1) (sem := (s_push (.int 1))) (p2 := 22) rfl rfl rfl ?_
    refine JV.invI (p2 := 25) rfl rfl rfl mm_M (Nat.le_of_ble_eq_true rfl) rfl (ev_X7_throwing (by omega) rfl) ?_
    subst hx
    exact JV.ret rfl (fun _ => rfl) rfl rfl
noncomputable def y_X7_event (m : Mem) (p1 : Int32) (p2 : Int32) : Mem × Int32 := (if (x_X7_in ((p1).toInt64) 0 (((m 1 0 7)).toInt64 - 1)) = true then (if (x_X7_in ((p2).toInt64) 0 2) = true then ((x_X7_fine m (m 1 0 ((155 + (3 * (ix p1))) + (ix p2)))).1, (x_X7_fine m (m 1 0 ((155 + (3 * (ix p1))) + (ix p2)))).2) else ((x_X7_throwing m 2).1, (x_X7_throwing m 2).2)) else ((x_X7_throwing m 1).1, (x_X7_throwing m 1).2))
theorem xe_X7_event : ∃ f, f = y_X7_event := ⟨y_X7_event, rfl⟩
noncomputable def x_X7_event := Classical.choose xe_X7_event
theorem x_X7_event_eq : x_X7_event = y_X7_event := Classical.choose_spec xe_X7_event
theorem ev_X7_event {d n c s b : Nat} {m : Mem} {M : JM} {p1 : Int32} {p2 : Int32} {B : Nat} {m0 : Mem} {res : Mem × Int32} (hd : 2 ≤ d) (hW : MW B m0 m) (hB : B + 0 < 2147483648) (hx : x_X7_event m p1 p2 = res) : Ev mtab mcode d 137 [.ref b, .int p1, .int p2] (n, c, s, mm b m M) (.inl (some (.int res.2))) (n, c, s, mm b res.1 M) := by
  obtain ⟨d, rfl⟩ : ∃ e, d = e + 1 := ⟨d - 1, by omega⟩
  rw [x_X7_event_eq] at hx
  unfold y_X7_event at hx
  refine jv_mk (m := mX7_event) (cd := jcX7_event) rfl rfl (Nat.le_of_ble_eq_true rfl) trivial ?_
  refine JV.ild (p2 := 1) rfl rfl rfl ?_
  refine JV.stk (len := 1) (sem := s_i2l) (p2 := 2) rfl rfl rfl ?_
  refine JV.stk (len := 1) (sem := (s_push (.long 0))) (p2 := 3) rfl rfl rfl ?_
  refine JV.ald (p2 := 4) rfl rfl rfl ?_
  refine JV.getf (p2 := 7) rfl mm_M rfl rfl ?_
  refine JV.stk (len := 2) (sem := (s_push (.int 7))) (p2 := 9) rfl rfl rfl ?_
  refine JV.iald (p2 := 10) (j := 7) rfl mm_1 rfl (by omega) (by decide) rfl ?_
  refine JV.stk (len := 1) (sem := s_i2l) (p2 := 11) rfl rfl rfl ?_
  refine JV.stk (len := 1) (sem := (s_push (.long 1))) (p2 := 12) rfl rfl rfl ?_
  refine JV.stk (len := 1) (sem := s_lsub) (p2 := 13) rfl rfl rfl ?_
  refine JV.insI (p2 := 16) rfl (Nat.le_of_ble_eq_true rfl) rfl rfl (Nat.le_of_ble_eq_true rfl) rfl (ev_X7_in (by omega) rfl) rfl ?_
  by_cases h16 : (x_X7_in ((p1).toInt64) 0 (((m 1 0 7)).toInt64 - 1)) = true
  · rw [if_pos h16] at hx
    refine JV.brT rfl rfl (bI_t h16) ?_
    have e25 := in_lt hW.1.ev (by decide) h16
    have b25 := e25.2
    have c25 := hW.1.ev.2
    refine JV.ild (p2 := 26) rfl rfl rfl ?_
    refine JV.stk (len := 1) (sem := s_i2l) (p2 := 27) rfl rfl rfl ?_
    refine JV.stk (len := 1) (sem := (s_push (.long 0))) (p2 := 28) rfl rfl rfl ?_
    refine JV.ldc2 (p2 := 31) rfl rfl ?_
    refine JV.insI (p2 := 34) rfl (Nat.le_of_ble_eq_true rfl) rfl rfl (Nat.le_of_ble_eq_true rfl) rfl (ev_X7_in (by omega) rfl) rfl ?_
    by_cases h34 : (x_X7_in ((p2).toInt64) 0 2) = true
    · rw [if_pos h34] at hx
      refine JV.brF (p2 := 37) rfl rfl rfl (bI_t h34) ?_
      have e37 := in_VNk (k := 2) (M := 2) (by decide) (by decide) (by decide) h34 (by decide)
      have b37 := e37.2
      refine JV.ald (p2 := 38) rfl rfl rfl ?_
      refine JV.ald (p2 := 39) rfl rfl rfl ?_
      refine JV.getf (p2 := 42) rfl mm_M rfl rfl ?_
      refine JV.stk (len := 3) (sem := (s_push (.int 155))) (p2 := 45) rfl rfl rfl ?_
      refine JV.stk (len := 1) (sem := (s_push (.int 3))) (p2 := 46) rfl rfl rfl ?_
      refine JV.ild (p2 := 47) rfl rfl rfl ?_
      refine JV.stk (len := 1) (sem := s_imul) (p2 := 48) rfl rfl rfl ?_
      refine JV.stk (len := 1) (sem := s_iadd) (p2 := 49) rfl rfl rfl ?_
      refine JV.ild (p2 := 50) rfl rfl rfl ?_
      refine JV.stk (len := 1) (sem := s_iadd) (p2 := 51) rfl rfl rfl ?_
      refine JV.iald (p2 := 52) (j := ((155 + (3 * (ix p1))) + (ix p2))) rfl mm_1 (nI_addE (nI_addE rfl (nI_mulE rfl e25.1)) e37.1) (by omega) (by decide) rfl ?_
      refine JV.invI (p2 := 55) rfl rfl rfl mm_M (Nat.le_of_ble_eq_true rfl) rfl (ev_X7_fine (by omega) rfl) ?_
      refine JV.goto rfl ?_
      subst hx
      exact JV.ret rfl (fun _ => rfl) rfl rfl
    · rw [if_neg h34] at hx
      refine JV.brT rfl rfl (bI_f h34) ?_
      refine JV.ald (p2 := 59) rfl rfl rfl ?_
      refine JV.stk (len := 1) (sem := (s_push (.int 2))) (p2 := 60) rfl rfl rfl ?_
      refine JV.invI (p2 := 63) rfl rfl rfl mm_M (Nat.le_of_ble_eq_true rfl) rfl (ev_X7_throwing (by omega) rfl) ?_
      subst hx
      exact JV.ret rfl (fun _ => rfl) rfl rfl
  · rw [if_neg h16] at hx
    refine JV.brF (p2 := 19) rfl rfl rfl (fun e => e (bI_f h16)) ?_
    refine JV.ald (p2 := 20) rfl rfl rfl ?_
    refine JV.stk (len := 1) (sem := (s_push (.int 1))) (p2 := 21) rfl rfl rfl ?_
    refine JV.invI (p2 := 24) rfl rfl rfl mm_M (Nat.le_of_ble_eq_true rfl) rfl (ev_X7_throwing (by omega) rfl) ?_
    subst hx
    exact JV.ret rfl (fun _ => rfl) rfl rfl
