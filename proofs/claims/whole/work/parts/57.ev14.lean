theorem vn_12 {x : Int32} (h : VN 12 x) (g : ¬ x = 12) : ix x < 12 := by
  have b := h.2
  have : ix x ≠ 12 := fun e => g (by rw [h.1, e]; rfl)
  omega
theorem vn_3 {x : Int32} (h : VN 3 x) (g : ¬ x = 3) : ix x < 3 := by
  have b := h.2
  have : ix x ≠ 3 := fun e => g (by rw [h.1, e]; rfl)
  omega
theorem mw_c12 {B B' : Nat} {m0 m m' : Mem} (h : MW B' m0 m') (hW : MW B m0 m) (g : ¬ m 1 0 2 = 12) : ix (m' 1 0 2) < 12 := by
  rw [MW.same h hW (by decide)]
  exact vn_12 hW.1.na g
theorem vn_41 {x : Int32} (h : VN 4 x) (g : ¬ x = 0) : VN 3 (x - 1) := by
  have b := h.2
  have e := h.1
  have n0 : ix x ≠ 0 := fun z => g (by rw [e, z]; rfl)
  have e2 : x - 1 = nI (ix x - 1) := by
    conv => lhs; rw [e]
    exact pk_sub (b := 1) (by omega)
  unfold VN
  rw [e2, ix_nI (by omega)]
  exact ⟨rfl, by omega⟩
theorem mw_addt {B B' : Nat} {m0 m m' : Mem} (hW : MW B m0 m) (hc : ¬ m 1 0 1 = 3) (h : MW B' m0 m') : MW B' (up3 m0 1 0 1 (m0 1 0 1 + 1)) (up3 m' 1 0 1 (m' 1 0 1 + 1)) := by
  have e : m' 1 0 1 = m0 1 0 1 := h.2.2 1 (by decide)
  have e2 : m 1 0 1 = m0 1 0 1 := hW.2.2 1 (by decide)
  have hc := vn_3 hW.1.nt hc
  rw [e2] at hc
  have hv : VN 3 (m0 1 0 1 + 1) := by
    have q := hW.1.nt.1
    rw [e2] at q
    have e3 : m0 1 0 1 + 1 = nI (ix (m0 1 0 1) + 1) := by rw [← nI_1, ← q]
    unfold VN
    rw [e3, ix_nI (by omega)]
    exact ⟨rfl, by omega⟩
  refine ⟨⟨?_, ?_, ?_, ?_, ?_, ?_, ?_⟩, rfl, fun q hq => ?_⟩
  · rw [up3_k (by decide)]; exact h.1.1
  · rw [up3_self, e]; exact hv
  · rw [up3_k (by decide)]; exact h.1.2.2.1
  · rw [up3_k (by decide)]; exact h.1.2.2.2.1
  · rw [up3_k (by decide)]; exact h.1.2.2.2.2.1
  · rw [up3_k (by decide)]; exact h.1.2.2.2.2.2.1
  · rw [up3_k (by decide)]; exact h.1.2.2.2.2.2.2
  · by_cases g : q = 1
    · subst g
      rw [up3_self, up3_self, e]
    · rw [up3_k g, up3_k g]
      exact h.2.2 q hq
noncomputable def y_X7_setCurfew (m : Mem) (p1 : Int32) (p2 : Int32) : Mem × Int32 := (if (x_X7_in ((p1).toInt64) 0 1440) = true then (if (x_X7_in ((p2).toInt64) 0 1440) = true then (if p1 < p2 then ((x_X7_fine (up3 (up3 (x_X7_save m) 1 0 4 p1) 1 0 5 p2) (p2 - p1)).1, (x_X7_fine (up3 (up3 (x_X7_save m) 1 0 4 p1) 1 0 5 p2) (p2 - p1)).2) else ((x_X7_fine (up3 (up3 (x_X7_save m) 1 0 4 p1) 1 0 5 p2) 0).1, (x_X7_fine (up3 (up3 (x_X7_save m) 1 0 4 p1) 1 0 5 p2) 0).2)) else ((x_X7_throwing m 1).1, (x_X7_throwing m 1).2)) else ((x_X7_throwing m 1).1, (x_X7_throwing m 1).2))
theorem xe_X7_setCurfew : ∃ f, f = y_X7_setCurfew := ⟨y_X7_setCurfew, rfl⟩
noncomputable def x_X7_setCurfew := Classical.choose xe_X7_setCurfew
theorem x_X7_setCurfew_eq : x_X7_setCurfew = y_X7_setCurfew := Classical.choose_spec xe_X7_setCurfew
theorem ev_X7_setCurfew {d n c s b : Nat} {m : Mem} {M : JM} {p1 : Int32} {p2 : Int32} {B : Nat} {m0 : Mem} {res : Mem × Int32} (hd : 2 ≤ d) (hW : MW B m0 m) (hB : B + 0 < 2147483648) (hs : VN 4 (m 0 0 0)) (hx : x_X7_setCurfew m p1 p2 = res) : Ev mtab mcode d 109 [.ref b, .int p1, .int p2] (n, c, s, mm b m M) (.inl (some (.int res.2))) (n, c, s, mm b res.1 M) := by
  obtain ⟨d, rfl⟩ : ∃ e, d = e + 1 := ⟨d - 1, by omega⟩
  rw [x_X7_setCurfew_eq] at hx
  unfold y_X7_setCurfew at hx
  refine jv_mk (m := mX7_setCurfew) (cd := jcX7_setCurfew) rfl rfl (Nat.le_of_ble_eq_true rfl) trivial ?_
  refine JV.ild (p2 := 1) rfl rfl rfl ?_
  refine JV.stk (len := 1) (sem := s_i2l) (p2 := 2) rfl rfl rfl ?_
  refine JV.stk (len := 1) (sem := (s_push (.long 0))) (p2 := 3) rfl rfl rfl ?_
  refine JV.ldc2 (p2 := 6) rfl rfl ?_
  refine JV.insI (p2 := 9) rfl (Nat.le_of_ble_eq_true rfl) rfl rfl (Nat.le_of_ble_eq_true rfl) rfl (ev_X7_in (by omega) rfl) rfl ?_
  by_cases h9 : (x_X7_in ((p1).toInt64) 0 1440) = true
  · rw [if_pos h9] at hx
    refine JV.brF (p2 := 12) rfl rfl rfl (bI_t h9) ?_
    refine JV.ild (p2 := 13) rfl rfl rfl ?_
    refine JV.stk (len := 1) (sem := s_i2l) (p2 := 14) rfl rfl rfl ?_
    refine JV.stk (len := 1) (sem := (s_push (.long 0))) (p2 := 15) rfl rfl rfl ?_
    refine JV.ldc2 (p2 := 18) rfl rfl ?_
    refine JV.insI (p2 := 21) rfl (Nat.le_of_ble_eq_true rfl) rfl rfl (Nat.le_of_ble_eq_true rfl) rfl (ev_X7_in (by omega) rfl) rfl ?_
    by_cases h21 : (x_X7_in ((p2).toInt64) 0 1440) = true
    · rw [if_pos h21] at hx
      refine JV.brT rfl rfl (bI_t h21) ?_
      refine JV.ald (p2 := 31) rfl rfl rfl ?_
      refine JV.inv0 (p2 := 34) rfl rfl rfl mm_M (Nat.le_of_ble_eq_true rfl) rfl (ev_X7_save (by omega) hW (by omega) hs rfl) ?_
      refine JV.ald (p2 := 35) rfl rfl rfl ?_
      refine JV.getf (p2 := 38) rfl mm_M rfl rfl ?_
      refine JV.stk (len := 1) (sem := (s_push (.int 4))) (p2 := 39) rfl rfl rfl ?_
      refine JV.ild (p2 := 40) rfl rfl rfl ?_
      refine JV.iast (p2 := 41) (j := 4) rfl mm_1 rfl (by omega) (by decide) (mm_w1 (k := 4) rfl) rfl ?_
      refine JV.ald (p2 := 42) rfl rfl rfl ?_
      refine JV.getf (p2 := 45) rfl mm_M rfl rfl ?_
      refine JV.stk (len := 1) (sem := (s_push (.int 5))) (p2 := 46) rfl rfl rfl ?_
      refine JV.ild (p2 := 47) rfl rfl rfl ?_
      refine JV.iast (p2 := 48) (j := 5) rfl mm_1 rfl (by omega) (by decide) (mm_w1 (k := 5) rfl) rfl ?_
      refine JV.ald (p2 := 49) rfl rfl rfl ?_
      refine JV.ild (p2 := 50) rfl rfl rfl ?_
      refine JV.ild (p2 := 51) rfl rfl rfl ?_
      by_cases h51 : p1 < p2
      · rw [if_pos h51] at hx
        refine JV.brF (p2 := 54) rfl rfl rfl (Int32.not_le.mpr h51) ?_
        refine JV.ild (p2 := 55) rfl rfl rfl ?_
        refine JV.ild (p2 := 56) rfl rfl rfl ?_
        refine JV.stk (len := 1) (sem := s_isub) (p2 := 57) rfl rfl rfl ?_
        refine JV.goto rfl ?_
        refine JV.invI (p2 := 64) rfl rfl rfl mm_M (Nat.le_of_ble_eq_true rfl) rfl (ev_X7_fine (by omega) rfl) ?_
        subst hx
        exact JV.ret rfl (fun _ => rfl) rfl rfl
      · rw [if_neg h51] at hx
        refine JV.brT rfl rfl (Int32.not_lt.mp h51) ?_
        refine JV.stk (len := 1) (sem := (s_push (.int 0))) (p2 := 61) rfl rfl rfl ?_
        refine JV.invI (p2 := 64) rfl rfl rfl mm_M (Nat.le_of_ble_eq_true rfl) rfl (ev_X7_fine (by omega) rfl) ?_
        subst hx
        exact JV.ret rfl (fun _ => rfl) rfl rfl
    · rw [if_neg h21] at hx
      refine JV.brF (p2 := 24) rfl rfl rfl (fun e => e (bI_f h21)) ?_
      refine JV.ald (p2 := 25) rfl rfl rfl ?_
      refine JV.stk (len := 1) (sem := (s_push (.int 1))) (p2 := 26) rfl rfl rfl ?_
      refine JV.invI (p2 := 29) rfl rfl rfl mm_M (Nat.le_of_ble_eq_true rfl) rfl (ev_X7_throwing (by omega) rfl) ?_
      subst hx
      exact JV.ret rfl (fun _ => rfl) rfl rfl
  · rw [if_neg h9] at hx
    refine JV.brT rfl rfl (bI_f h9) ?_
    refine JV.ald (p2 := 25) rfl rfl rfl ?_
    refine JV.stk (len := 1) (sem := (s_push (.int 1))) (p2 := 26) rfl rfl rfl ?_
    refine JV.invI (p2 := 29) rfl rfl rfl mm_M (Nat.le_of_ble_eq_true rfl) rfl (ev_X7_throwing (by omega) rfl) ?_
    subst hx
    exact JV.ret rfl (fun _ => rfl) rfl rfl
noncomputable def y_X7_expect (m : Mem) (p1 : Int32) (p2 : Int32) (p3 : Int32) (p4 : Int32) : Mem × Int32 := (if (x_X7_in ((p1).toInt64) 11 43) = true then (if (x_X7_in (((p1 - p1 / 10 * 10)).toInt64) 1 3) = true then (if (x_X7_in ((p2).toInt64) 0 1999) = true then (if p2 < p3 then (if 1999 < p3 then ((x_X7_throwing m 1).1, (x_X7_throwing m 1).2) else (if (x_X7_in ((p4).toInt64) 0 400) = true then (if (m 1 0 2) = 12 then ((x_X7_throwing m 2).1, (x_X7_throwing m 2).2) else ((x_X7_fine (x_X7_adds (x_X7_save m) (p1 / 10) (p1 - p1 / 10 * 10) p2 p3 p4) (((x_X7_adds (x_X7_save m) (p1 / 10) (p1 - p1 / 10 * 10) p2 p3 p4) 1 0 2) - 1)).1, (x_X7_fine (x_X7_adds (x_X7_save m) (p1 / 10) (p1 - p1 / 10 * 10) p2 p3 p4) (((x_X7_adds (x_X7_save m) (p1 / 10) (p1 - p1 / 10 * 10) p2 p3 p4) 1 0 2) - 1)).2)) else ((x_X7_throwing m 1).1, (x_X7_throwing m 1).2))) else ((x_X7_throwing m 1).1, (x_X7_throwing m 1).2)) else ((x_X7_throwing m 1).1, (x_X7_throwing m 1).2)) else ((x_X7_throwing m 1).1, (x_X7_throwing m 1).2)) else ((x_X7_throwing m 1).1, (x_X7_throwing m 1).2))
theorem xe_X7_expect : ∃ f, f = y_X7_expect := ⟨y_X7_expect, rfl⟩
noncomputable def x_X7_expect := Classical.choose xe_X7_expect
theorem x_X7_expect_eq : x_X7_expect = y_X7_expect := Classical.choose_spec xe_X7_expect
theorem ev_X7_expect {d n c s b : Nat} {m : Mem} {M : JM} {p1 : Int32} {p2 : Int32} {p3 : Int32} {p4 : Int32} {B : Nat} {m0 : Mem} {res : Mem × Int32} (hd : 3 ≤ d) (hW : MW B m0 m) (hB : B + 0 < 2147483648) (hs : VN 4 (m 0 0 0)) (hx : x_X7_expect m p1 p2 p3 p4 = res) : Ev mtab mcode d 111 [.ref b, .int p1, .int p2, .int p3, .int p4] (n, c, s, mm b m M) (.inl (some (.int res.2))) (n, c, s, mm b res.1 M) := by
  obtain ⟨d, rfl⟩ : ∃ e, d = e + 1 := ⟨d - 1, by omega⟩
  rw [x_X7_expect_eq] at hx
  unfold y_X7_expect at hx
  refine jv_mk (m := mX7_expect) (cd := jcX7_expect) rfl rfl (Nat.le_of_ble_eq_true rfl) trivial ?_
  refine JV.ild (p2 := 1) rfl rfl rfl ?_
  refine JV.stk (len := 1) (sem := s_i2l) (p2 := 2) rfl rfl rfl ?_
  refine JV.ldc2 (p2 := 5) rfl rfl ?_
  refine JV.ldc2 (p2 := 8) rfl rfl ?_
  refine JV.insI (p2 := 11) rfl (Nat.le_of_ble_eq_true rfl) rfl rfl (Nat.le_of_ble_eq_true rfl) rfl (ev_X7_in (by omega) rfl) rfl ?_
  by_cases h11 : (x_X7_in ((p1).toInt64) 11 43) = true
  · rw [if_pos h11] at hx
    refine JV.brF (p2 := 14) rfl rfl rfl (bI_t h11) ?_
    refine JV.ild (p2 := 15) rfl rfl rfl ?_
    refine JV.stk (len := 2) (sem := (s_push (.int 10))) (p2 := 17) rfl rfl rfl ?_
    refine JV.stk (len := 1) (sem := s_irem) (p2 := 18) rfl rfl rfl ?_
    refine JV.stk (len := 1) (sem := s_i2l) (p2 := 19) rfl rfl rfl ?_
    refine JV.stk (len := 1) (sem := (s_push (.long 1))) (p2 := 20) rfl rfl rfl ?_
    refine JV.ldc2 (p2 := 23) rfl rfl ?_
    refine JV.insI (p2 := 26) rfl (Nat.le_of_ble_eq_true rfl) rfl rfl (Nat.le_of_ble_eq_true rfl) rfl (ev_X7_in (by omega) rfl) rfl ?_
    by_cases h26 : (x_X7_in (((p1 - p1 / 10 * 10)).toInt64) 1 3) = true
    · rw [if_pos h26] at hx
      refine JV.brF (p2 := 29) rfl rfl rfl (bI_t h26) ?_
      refine JV.ild (p2 := 30) rfl rfl rfl ?_
      refine JV.stk (len := 1) (sem := s_i2l) (p2 := 31) rfl rfl rfl ?_
      refine JV.stk (len := 1) (sem := (s_push (.long 0))) (p2 := 32) rfl rfl rfl ?_
      refine JV.ldc2 (p2 := 35) rfl rfl ?_
      refine JV.insI (p2 := 38) rfl (Nat.le_of_ble_eq_true rfl) rfl rfl (Nat.le_of_ble_eq_true rfl) rfl (ev_X7_in (by omega) rfl) rfl ?_
      by_cases h38 : (x_X7_in ((p2).toInt64) 0 1999) = true
      · rw [if_pos h38] at hx
        refine JV.brF (p2 := 41) rfl rfl rfl (bI_t h38) ?_
        refine JV.ild (p2 := 42) rfl rfl rfl ?_
        refine JV.ild (p2 := 43) rfl rfl rfl ?_
        by_cases h43 : p2 < p3
        · rw [if_pos h43] at hx
          refine JV.brF (p2 := 46) rfl rfl rfl (Int32.not_le.mpr h43) ?_
          refine JV.ild (p2 := 47) rfl rfl rfl ?_
          refine JV.stk (len := 3) (sem := (s_push (.int 1999))) (p2 := 50) rfl rfl rfl ?_
          by_cases h50 : 1999 < p3
          · rw [if_pos h50] at hx
            refine JV.brT rfl rfl h50 ?_
            refine JV.ald (p2 := 67) rfl rfl rfl ?_
            refine JV.stk (len := 1) (sem := (s_push (.int 1))) (p2 := 68) rfl rfl rfl ?_
            refine JV.invI (p2 := 71) rfl rfl rfl mm_M (Nat.le_of_ble_eq_true rfl) rfl (ev_X7_throwing (by omega) rfl) ?_
            subst hx
            exact JV.ret rfl (fun _ => rfl) rfl rfl
          · rw [if_neg h50] at hx
            refine JV.brF (p2 := 53) rfl rfl rfl h50 ?_
            refine JV.ild (p2 := 55) rfl rfl rfl ?_
            refine JV.stk (len := 1) (sem := s_i2l) (p2 := 56) rfl rfl rfl ?_
            refine JV.stk (len := 1) (sem := (s_push (.long 0))) (p2 := 57) rfl rfl rfl ?_
            refine JV.ldc2 (p2 := 60) rfl rfl ?_
            refine JV.insI (p2 := 63) rfl (Nat.le_of_ble_eq_true rfl) rfl rfl (Nat.le_of_ble_eq_true rfl) rfl (ev_X7_in (by omega) rfl) rfl ?_
            by_cases h63 : (x_X7_in ((p4).toInt64) 0 400) = true
            · rw [if_pos h63] at hx
              refine JV.brT rfl rfl (bI_t h63) ?_
              refine JV.ald (p2 := 73) rfl rfl rfl ?_
              refine JV.getf (p2 := 76) rfl mm_M rfl rfl ?_
              refine JV.stk (len := 1) (sem := (s_push (.int 2))) (p2 := 77) rfl rfl rfl ?_
              refine JV.iald (p2 := 78) (j := 2) rfl mm_1 rfl (by omega) (by decide) rfl ?_
              refine JV.stk (len := 2) (sem := (s_push (.int 12))) (p2 := 80) rfl rfl rfl ?_
              by_cases h80 : (m 1 0 2) = 12
              · rw [if_pos h80] at hx
                refine JV.brF (p2 := 83) rfl rfl rfl (fun e => e h80) ?_
                refine JV.ald (p2 := 84) rfl rfl rfl ?_
                refine JV.stk (len := 1) (sem := (s_push (.int 2))) (p2 := 85) rfl rfl rfl ?_
                refine JV.invI (p2 := 88) rfl rfl rfl mm_M (Nat.le_of_ble_eq_true rfl) rfl (ev_X7_throwing (by omega) rfl) ?_
                subst hx
                exact JV.ret rfl (fun _ => rfl) rfl rfl
              · rw [if_neg h80] at hx
                refine JV.brT rfl rfl h80 ?_
                refine JV.ald (p2 := 90) rfl rfl rfl ?_
                refine JV.inv0 (p2 := 93) rfl rfl rfl mm_M (Nat.le_of_ble_eq_true rfl) rfl (ev_X7_save (by omega) hW (by omega) hs rfl) ?_
                refine JV.ald (p2 := 94) rfl rfl rfl ?_
                refine JV.ild (p2 := 95) rfl rfl rfl ?_
                refine JV.stk (len := 2) (sem := (s_push (.int 10))) (p2 := 97) rfl rfl rfl ?_
                refine JV.stk (len := 1) (sem := s_idiv) (p2 := 98) rfl rfl rfl ?_
                refine JV.ild (p2 := 99) rfl rfl rfl ?_
                refine JV.stk (len := 2) (sem := (s_push (.int 10))) (p2 := 101) rfl rfl rfl ?_
                refine JV.stk (len := 1) (sem := s_irem) (p2 := 102) rfl rfl rfl ?_
                refine JV.ild (p2 := 103) rfl rfl rfl ?_
                refine JV.ild (p2 := 104) rfl rfl rfl ?_
                refine JV.ild (p2 := 106) rfl rfl rfl ?_
                refine JV.inv0 (p2 := 109) rfl rfl rfl mm_M (Nat.le_of_ble_eq_true rfl) rfl (ev_X7_adds (by omega) (fw_X7_save hW (by omega) hs) (by omega) (mw_c12 (fw_X7_save hW (by omega) hs) hW h80) rfl) ?_
                refine JV.ald (p2 := 110) rfl rfl rfl ?_
                refine JV.ald (p2 := 111) rfl rfl rfl ?_
                refine JV.getf (p2 := 114) rfl mm_M rfl rfl ?_
                refine JV.stk (len := 1) (sem := (s_push (.int 2))) (p2 := 115) rfl rfl rfl ?_
                refine JV.iald (p2 := 116) (j := 2) rfl mm_1 rfl (by omega) (by decide) rfl ?_
                refine JV.stk (len := 1) (sem := (s_push (.int 1))) (p2 := 117) rfl rfl rfl ?_
                refine JV.stk (len := 1) (sem := s_isub) (p2 := 118) rfl rfl rfl ?_
                refine JV.invI (p2 := 121) rfl rfl rfl mm_M (Nat.le_of_ble_eq_true rfl) rfl (ev_X7_fine (by omega) rfl) ?_
                subst hx
                exact JV.ret rfl (fun _ => rfl) rfl rfl
            · rw [if_neg h63] at hx
              refine JV.brF (p2 := 66) rfl rfl rfl (fun e => e (bI_f h63)) ?_
              refine JV.ald (p2 := 67) rfl rfl rfl ?_
              refine JV.stk (len := 1) (sem := (s_push (.int 1))) (p2 := 68) rfl rfl rfl ?_
              refine JV.invI (p2 := 71) rfl rfl rfl mm_M (Nat.le_of_ble_eq_true rfl) rfl (ev_X7_throwing (by omega) rfl) ?_
              subst hx
              exact JV.ret rfl (fun _ => rfl) rfl rfl
        · rw [if_neg h43] at hx
          refine JV.brT rfl rfl (Int32.not_lt.mp h43) ?_
          refine JV.ald (p2 := 67) rfl rfl rfl ?_
          refine JV.stk (len := 1) (sem := (s_push (.int 1))) (p2 := 68) rfl rfl rfl ?_
          refine JV.invI (p2 := 71) rfl rfl rfl mm_M (Nat.le_of_ble_eq_true rfl) rfl (ev_X7_throwing (by omega) rfl) ?_
          subst hx
          exact JV.ret rfl (fun _ => rfl) rfl rfl
      · rw [if_neg h38] at hx
        refine JV.brT rfl rfl (bI_f h38) ?_
        refine JV.ald (p2 := 67) rfl rfl rfl ?_
        refine JV.stk (len := 1) (sem := (s_push (.int 1))) (p2 := 68) rfl rfl rfl ?_
        refine JV.invI (p2 := 71) rfl rfl rfl mm_M (Nat.le_of_ble_eq_true rfl) rfl (ev_X7_throwing (by omega) rfl) ?_
        subst hx
        exact JV.ret rfl (fun _ => rfl) rfl rfl
    · rw [if_neg h26] at hx
      refine JV.brT rfl rfl (bI_f h26) ?_
      refine JV.ald (p2 := 67) rfl rfl rfl ?_
      refine JV.stk (len := 1) (sem := (s_push (.int 1))) (p2 := 68) rfl rfl rfl ?_
      refine JV.invI (p2 := 71) rfl rfl rfl mm_M (Nat.le_of_ble_eq_true rfl) rfl (ev_X7_throwing (by omega) rfl) ?_
      subst hx
      exact JV.ret rfl (fun _ => rfl) rfl rfl
  · rw [if_neg h11] at hx
    refine JV.brT rfl rfl (bI_f h11) ?_
    refine JV.ald (p2 := 67) rfl rfl rfl ?_
    refine JV.stk (len := 1) (sem := (s_push (.int 1))) (p2 := 68) rfl rfl rfl ?_
    refine JV.invI (p2 := 71) rfl rfl rfl mm_M (Nat.le_of_ble_eq_true rfl) rfl (ev_X7_throwing (by omega) rfl) ?_
    subst hx
    exact JV.ret rfl (fun _ => rfl) rfl rfl
noncomputable def bd_X7_pass_50 (w1 : Int32) (w2 : Int32) (j : Nat) (m : Mem) : Mem := (x_X7_minute m)
noncomputable def ly_X7_pass_50 (w1 : Int32) (w2 : Int32) (N : Nat) (m : Mem) : Mem := itr (fun jz s => bd_X7_pass_50 w1 w2 jz s) N 0 m
theorem le_X7_pass_50 : ∃ f, f = ly_X7_pass_50 := ⟨ly_X7_pass_50, rfl⟩
noncomputable def lf_X7_pass_50 := Classical.choose le_X7_pass_50
theorem lf_X7_pass_50_eq : lf_X7_pass_50 = ly_X7_pass_50 := Classical.choose_spec le_X7_pass_50
theorem fb_X7_pass_50 {B : Nat} {m0 : Mem} {w1 : Int32} {w2 : Int32} (hB : B + 0 < 2147483648) {j : Nat} {m : Mem} (hjN : j < 500) (hW : MW (B + 0 * j) m0 m) : (MW (B + 0 * (j + 1)) m0 (bd_X7_pass_50 w1 w2 j m)) := by
  unfold bd_X7_pass_50
  exact (MW.mono (fw_X7_minute hW (by omega)) (by omega))
theorem fl_X7_pass_50 {B : Nat} {m0 : Mem} {w1 : Int32} {w2 : Int32} {N : Nat} (hB : B + 0 < 2147483648) {m : Mem} (hNc : N ≤ 500) (hW : MW (B + 0 * 0) m0 m) : (MW (B + 0 * N) m0 (lf_X7_pass_50 w1 w2 N m)) := by
  rw [lf_X7_pass_50_eq]
  unfold ly_X7_pass_50
  exact itr_inv (n := N) (s := m) (P := fun jz s => (MW (B + 0 * jz) m0 s)) (fun jz s => bd_X7_pass_50 w1 w2 jz s) (fun jz s hj hs => fb_X7_pass_50 (B := B) (m0 := m0) hB (j := jz) (m := s) (by omega) hs) hW
theorem lp_X7_pass_50 {d n c s b : Nat} {M : JM} {o : JO} {hf : JH} {B : Nat} {m0 : Mem} {w1 : Int32} {w2 : Int32} {N : Nat} (hd : 7 ≤ d) (hB : B + 0 < 2147483648) (hNc : N ≤ 500) : ∀ (k j : Nat) (m : Mem), j + k = N → w1 = nI N → (MW (B + 0 * j) m0 m) → JV (Ev mtab mcode d) jcX7_pass (65, [(0, .ref b), (1, .int w1), (2, .int w2)], []) (n, c, s, mm b (itr (fun jz s => bd_X7_pass_50 w1 w2 jz s) k j m) M) o hf → JV (Ev mtab mcode d) jcX7_pass (50, [(0, .ref b), (1, .int w1), (2, .int w2), (3, .int (nI j))], []) (n, c, s, mm b m M) o hf := by
  intro k
  induction k with
  | zero =>
    intro j m hj hN hW hc
    refine JV.ild (p2 := 51) rfl rfl rfl ?_
    refine JV.ild (p2 := 52) rfl rfl rfl ?_
    refine JV.brT rfl rfl (by rw [hN]; exact nI_le (a := N) (b := j) (by omega) (by omega)) ?_
    exact JV.keep [0, 1, 2] rfl hc
  | succ k ih =>
    intro j m hj hN hW hc
    obtain ⟨s1, hx⟩ : ∃ s1, bd_X7_pass_50 w1 w2 j m = s1 := ⟨_, rfl⟩
    have hc2 : JV (Ev mtab mcode d) jcX7_pass (65, [(0, .ref b), (1, .int w1), (2, .int w2)], []) (n, c, s, mm b (itr (fun jz s => bd_X7_pass_50 w1 w2 jz s) k (j + 1) s1) M) o hf := by
      subst hx
      exact hc
    clear hc
    have iv := fb_X7_pass_50 (B := B) (m0 := m0) (w1 := w1) (w2 := w2) hB (j := j) (m := m) (by omega) hW
    rw [hx] at iv
    unfold bd_X7_pass_50 at hx
    refine JV.ild (p2 := 51) rfl rfl rfl ?_
    refine JV.ild (p2 := 52) rfl rfl rfl ?_
    refine JV.brF (p2 := 55) rfl rfl rfl (by rw [hN]; exact nI_ge (a := j) (b := N) (by omega) (by omega)) ?_
    refine JV.ald (p2 := 56) rfl rfl rfl ?_
    refine JV.inv0 (p2 := 59) rfl rfl rfl mm_M (Nat.le_of_ble_eq_true rfl) rfl (ev_X7_minute (by omega) hW (by omega) rfl) ?_
    refine JV.iinc (p2 := 62) rfl rfl (nI_1 _) rfl rfl ?_
    refine JV.goto rfl ?_
    subst hx
    exact ih (j + 1) _ (by omega) hN iv hc2
theorem lq_X7_pass_50 {d n c s b : Nat} {M : JM} {o : JO} {hf : JH} {B : Nat} {m0 : Mem} {w1 : Int32} {w2 : Int32} {N : Nat} {m : Mem} (hd : 7 ≤ d) (hB : B + 0 < 2147483648) (hNc : N ≤ 500) (hN : w1 = nI N) (hW : MW (B + 0 * 0) m0 m) (hc : JV (Ev mtab mcode d) jcX7_pass (65, [(0, .ref b), (1, .int w1), (2, .int w2)], []) (n, c, s, mm b (lf_X7_pass_50 w1 w2 N m) M) o hf) : JV (Ev mtab mcode d) jcX7_pass (50, [(0, .ref b), (1, .int w1), (2, .int w2), (3, .int 0)], []) (n, c, s, mm b m M) o hf := by
  rw [lf_X7_pass_50_eq] at hc
  unfold ly_X7_pass_50 at hc
  exact lp_X7_pass_50 (B := B) (m0 := m0) hd hB hNc N 0 m (by omega) hN hW hc
noncomputable def y_X7_pass (m : Mem) (p1 : Int32) : Mem × Int32 := (if (x_X7_in ((p1).toInt64) 1 500) = true then (if 10000 < ((m 1 0 3) + p1) then ((x_X7_throwing m 2).1, (x_X7_throwing m 2).2) else ((x_X7_fine (lf_X7_pass_50 p1 (x_X7_inState (x_X7_save m) 5) (ix p1) (x_X7_save m)) ((x_X7_inState (lf_X7_pass_50 p1 (x_X7_inState (x_X7_save m) 5) (ix p1) (x_X7_save m)) 5) - (x_X7_inState (x_X7_save m) 5))).1, (x_X7_fine (lf_X7_pass_50 p1 (x_X7_inState (x_X7_save m) 5) (ix p1) (x_X7_save m)) ((x_X7_inState (lf_X7_pass_50 p1 (x_X7_inState (x_X7_save m) 5) (ix p1) (x_X7_save m)) 5) - (x_X7_inState (x_X7_save m) 5))).2)) else ((x_X7_throwing m 1).1, (x_X7_throwing m 1).2))
theorem xe_X7_pass : ∃ f, f = y_X7_pass := ⟨y_X7_pass, rfl⟩
noncomputable def x_X7_pass := Classical.choose xe_X7_pass
theorem x_X7_pass_eq : x_X7_pass = y_X7_pass := Classical.choose_spec xe_X7_pass
theorem ev_X7_pass {d n c s b : Nat} {m : Mem} {M : JM} {p1 : Int32} {B : Nat} {m0 : Mem} {res : Mem × Int32} (hd : 8 ≤ d) (hW : MW B m0 m) (hB : B + 0 < 2147483648) (hs : VN 4 (m 0 0 0)) (hx : x_X7_pass m p1 = res) : Ev mtab mcode d 129 [.ref b, .int p1] (n, c, s, mm b m M) (.inl (some (.int res.2))) (n, c, s, mm b res.1 M) := by
  obtain ⟨d, rfl⟩ : ∃ e, d = e + 1 := ⟨d - 1, by omega⟩
  rw [x_X7_pass_eq] at hx
  unfold y_X7_pass at hx
  refine jv_mk (m := mX7_pass) (cd := jcX7_pass) rfl rfl (Nat.le_of_ble_eq_true rfl) trivial ?_
  refine JV.ild (p2 := 1) rfl rfl rfl ?_
  refine JV.stk (len := 1) (sem := s_i2l) (p2 := 2) rfl rfl rfl ?_
  refine JV.stk (len := 1) (sem := (s_push (.long 1))) (p2 := 3) rfl rfl rfl ?_
  refine JV.ldc2 (p2 := 6) rfl rfl ?_
  refine JV.insI (p2 := 9) rfl (Nat.le_of_ble_eq_true rfl) rfl rfl (Nat.le_of_ble_eq_true rfl) rfl (ev_X7_in (by omega) rfl) rfl ?_
  by_cases h9 : (x_X7_in ((p1).toInt64) 1 500) = true
  · rw [if_pos h9] at hx
    refine JV.brT rfl rfl (bI_t h9) ?_
    refine JV.ald (p2 := 19) rfl rfl rfl ?_
    refine JV.getf (p2 := 22) rfl mm_M rfl rfl ?_
    refine JV.stk (len := 1) (sem := (s_push (.int 3))) (p2 := 23) rfl rfl rfl ?_
    refine JV.iald (p2 := 24) (j := 3) rfl mm_1 rfl (by omega) (by decide) rfl ?_
    refine JV.ild (p2 := 25) rfl rfl rfl ?_
    refine JV.stk (len := 1) (sem := s_iadd) (p2 := 26) rfl rfl rfl ?_
    refine JV.stk (len := 3) (sem := (s_push (.int 10000))) (p2 := 29) rfl rfl rfl ?_
    by_cases h29 : 10000 < ((m 1 0 3) + p1)
    · rw [if_pos h29] at hx
      refine JV.brF (p2 := 32) rfl rfl rfl (Int32.not_le.mpr h29) ?_
      refine JV.ald (p2 := 33) rfl rfl rfl ?_
      refine JV.stk (len := 1) (sem := (s_push (.int 2))) (p2 := 34) rfl rfl rfl ?_
      refine JV.invI (p2 := 37) rfl rfl rfl mm_M (Nat.le_of_ble_eq_true rfl) rfl (ev_X7_throwing (by omega) rfl) ?_
      subst hx
      exact JV.ret rfl (fun _ => rfl) rfl rfl
    · rw [if_neg h29] at hx
      refine JV.brT rfl rfl (Int32.not_lt.mp h29) ?_
      have e38 := in_VNk (k := 500) (M := 500) (by decide) (by decide) (by decide) h9 (by decide)
      refine JV.ald (p2 := 39) rfl rfl rfl ?_
      refine JV.inv0 (p2 := 42) rfl rfl rfl mm_M (Nat.le_of_ble_eq_true rfl) rfl (ev_X7_save (by omega) hW (by omega) hs rfl) ?_
      refine JV.ald (p2 := 43) rfl rfl rfl ?_
      refine JV.stk (len := 1) (sem := (s_push (.int 5))) (p2 := 44) rfl rfl rfl ?_
      refine JV.invI (p2 := 47) rfl rfl rfl mm_M (Nat.le_of_ble_eq_true rfl) rfl (ev_X7_inState (by omega) (fw_X7_save hW (by omega) hs).1 rfl) ?_
      refine JV.ist (p2 := 48) rfl rfl rfl ?_
      refine JV.stk (len := 1) (sem := (s_push (.int 0))) (p2 := 49) rfl rfl rfl ?_
      refine JV.ist (p2 := 50) rfl rfl rfl ?_
      refine lq_X7_pass_50 (m := (x_X7_save m)) (N := (ix p1)) (w1 := p1) (w2 := (x_X7_inState (x_X7_save m) 5)) (B := B) (m0 := m0) (by omega) (by omega) e38.2 e38.1 (MW.mono (fw_X7_save hW (by omega) hs) (by omega)) ?_
      refine JV.ald (p2 := 66) rfl rfl rfl ?_
      refine JV.ald (p2 := 67) rfl rfl rfl ?_
      refine JV.stk (len := 1) (sem := (s_push (.int 5))) (p2 := 68) rfl rfl rfl ?_
      refine JV.invI (p2 := 71) rfl rfl rfl mm_M (Nat.le_of_ble_eq_true rfl) rfl (ev_X7_inState (by omega) (MW.mono (fl_X7_pass_50 (m := (x_X7_save m)) (N := (ix p1)) (w1 := p1) (w2 := (x_X7_inState (x_X7_save m) 5)) (B := B) (m0 := m0) (by omega) e38.2 (MW.mono (fw_X7_save hW (by omega) hs) (by omega))) (B' := B + 0) (by have hc9 := e38.2; omega)).1 rfl) ?_
      refine JV.ild (p2 := 72) rfl rfl rfl ?_
      refine JV.stk (len := 1) (sem := s_isub) (p2 := 73) rfl rfl rfl ?_
      refine JV.invI (p2 := 76) rfl rfl rfl mm_M (Nat.le_of_ble_eq_true rfl) rfl (ev_X7_fine (by omega) rfl) ?_
      subst hx
      exact JV.ret rfl (fun _ => rfl) rfl rfl
  · rw [if_neg h9] at hx
    refine JV.brF (p2 := 12) rfl rfl rfl (fun e => e (bI_f h9)) ?_
    refine JV.ald (p2 := 13) rfl rfl rfl ?_
    refine JV.stk (len := 1) (sem := (s_push (.int 1))) (p2 := 14) rfl rfl rfl ?_
    refine JV.invI (p2 := 17) rfl rfl rfl mm_M (Nat.le_of_ble_eq_true rfl) rfl (ev_X7_throwing (by omega) rfl) ?_
    subst hx
    exact JV.ret rfl (fun _ => rfl) rfl rfl
noncomputable def bd_X7_delayOf_20 (w1 : Int32) (j : Nat) (m : Mem) : Mem := (if (x_X7_of m (ix w1) 7) = (-1) then (x_X7_minute m) else m)
noncomputable def ly_X7_delayOf_20 (w1 : Int32) (N : Nat) (m : Mem) : Mem := itr (fun jz s => bd_X7_delayOf_20 w1 jz s) N 0 m
theorem le_X7_delayOf_20 : ∃ f, f = ly_X7_delayOf_20 := ⟨ly_X7_delayOf_20, rfl⟩
noncomputable def lf_X7_delayOf_20 := Classical.choose le_X7_delayOf_20
theorem lf_X7_delayOf_20_eq : lf_X7_delayOf_20 = ly_X7_delayOf_20 := Classical.choose_spec le_X7_delayOf_20
theorem fb_X7_delayOf_20 {B : Nat} {m0 : Mem} {w1 : Int32} (hB : B + 0 < 2147483648) (hw1 : w1 = nI (ix w1)) (hw2 : ix w1 < 12) {j : Nat} {m : Mem} (hjN : j < 3000) (hW : MW (B + 0 * j) m0 m) : (MW (B + 0 * (j + 1)) m0 (bd_X7_delayOf_20 w1 j m)) := by
  unfold bd_X7_delayOf_20
  by_cases h35 : (x_X7_of m (ix w1) 7) = (-1)
  · rw [if_pos h35]
    exact (MW.mono (fw_X7_minute hW (by omega)) (by omega))
  · rw [if_neg h35]
    exact (MW.mono hW (by omega))
theorem fl_X7_delayOf_20 {B : Nat} {m0 : Mem} {w1 : Int32} (hB : B + 0 < 2147483648) (hw1 : w1 = nI (ix w1)) (hw2 : ix w1 < 12) {m : Mem} {N : Nat} (hNl : N = 3000) (hW : MW (B + 0 * 0) m0 m) : (MW (B + 0 * N) m0 (lf_X7_delayOf_20 w1 N m)) := by
  rw [lf_X7_delayOf_20_eq]
  unfold ly_X7_delayOf_20
  exact itr_inv (n := N) (s := m) (P := fun jz s => (MW (B + 0 * jz) m0 s)) (fun jz s => bd_X7_delayOf_20 w1 jz s) (fun jz s hj hs => fb_X7_delayOf_20 (B := B) (m0 := m0) hB hw1 hw2 (j := jz) (m := s) (by omega) hs) hW
theorem lp_X7_delayOf_20 {d n c s b : Nat} {M : JM} {o : JO} {hf : JH} {B : Nat} {m0 : Mem} {w1 : Int32} (hd : 7 ≤ d) (hB : B + 0 < 2147483648) (hw1 : w1 = nI (ix w1)) (hw2 : ix w1 < 12) : ∀ (k j : Nat) (m : Mem), j + k = 3000 → (MW (B + 0 * j) m0 m) → JV (Ev mtab mcode d) jcX7_delayOf (48, [(0, .ref b), (1, .int w1)], []) (n, c, s, mm b (itr (fun jz s => bd_X7_delayOf_20 w1 jz s) k j m) M) o hf → JV (Ev mtab mcode d) jcX7_delayOf (20, [(0, .ref b), (1, .int w1), (2, .int (nI j))], []) (n, c, s, mm b m M) o hf := by
  intro k
  induction k with
  | zero =>
    intro j m hj hW hc
    refine JV.ild (p2 := 21) rfl rfl rfl ?_
    refine JV.stk (len := 3) (sem := (s_push (.int 3000))) (p2 := 24) rfl rfl rfl ?_
    refine JV.brT rfl rfl (by exact nI_le (a := 3000) (b := j) (by omega) (by omega)) ?_
    exact JV.keep [0, 1] rfl hc
  | succ k ih =>
    intro j m hj hW hc
    obtain ⟨s1, hx⟩ : ∃ s1, bd_X7_delayOf_20 w1 j m = s1 := ⟨_, rfl⟩
    have hc2 : JV (Ev mtab mcode d) jcX7_delayOf (48, [(0, .ref b), (1, .int w1)], []) (n, c, s, mm b (itr (fun jz s => bd_X7_delayOf_20 w1 jz s) k (j + 1) s1) M) o hf := by
      subst hx
      exact hc
    clear hc
    have iv := fb_X7_delayOf_20 (B := B) (m0 := m0) (w1 := w1) hB hw1 hw2 (j := j) (m := m) (by omega) hW
    rw [hx] at iv
    unfold bd_X7_delayOf_20 at hx
    refine JV.ild (p2 := 21) rfl rfl rfl ?_
    refine JV.stk (len := 3) (sem := (s_push (.int 3000))) (p2 := 24) rfl rfl rfl ?_
    refine JV.brF (p2 := 27) rfl rfl rfl (by exact nI_ge (a := j) (b := 3000) (by omega) (by omega)) ?_
    refine JV.ald (p2 := 28) rfl rfl rfl ?_
    refine JV.ild (p2 := 29) rfl rfl rfl ?_
    refine JV.stk (len := 2) (sem := (s_push (.int 7))) (p2 := 31) rfl rfl rfl ?_
    refine JV.invI (p2 := 34) rfl rfl rfl mm_M (Nat.le_of_ble_eq_true rfl) rfl (ev_X7_of (q := (ix w1)) (w := 7) (by omega) hw1 rfl (by omega) (by omega) rfl) ?_
    refine JV.stk (len := 1) (sem := (s_push (.int (-1)))) (p2 := 35) rfl rfl rfl ?_
    by_cases h35 : (x_X7_of m (ix w1) 7) = (-1)
    · rw [if_pos h35] at hx
      refine JV.brF (p2 := 38) rfl rfl rfl (fun e => e h35) ?_
      refine JV.ald (p2 := 39) rfl rfl rfl ?_
      refine JV.inv0 (p2 := 42) rfl rfl rfl mm_M (Nat.le_of_ble_eq_true rfl) rfl (ev_X7_minute (by omega) hW (by omega) rfl) ?_
      refine JV.iinc (p2 := 45) rfl rfl (nI_1 _) rfl rfl ?_
      refine JV.goto rfl ?_
      subst hx
      exact ih (j + 1) _ (by omega) iv hc2
    · rw [if_neg h35] at hx
      refine JV.brT rfl rfl h35 ?_
      subst hx
      have fx : ∀ jz, (fun jz s => bd_X7_delayOf_20 w1 jz s) jz m = m := fun jz => by
        show bd_X7_delayOf_20 w1 jz m = _
        unfold bd_X7_delayOf_20
        rw [if_neg h35]
      rw [itr_fix (f := (fun jz s => bd_X7_delayOf_20 w1 jz s)) (s := m) fx] at hc2
      exact JV.keep [0, 1] rfl hc2
theorem lq_X7_delayOf_20 {d n c s b : Nat} {M : JM} {o : JO} {hf : JH} {B : Nat} {m0 : Mem} {w1 : Int32} {m : Mem} (hd : 7 ≤ d) (hB : B + 0 < 2147483648) (hw1 : w1 = nI (ix w1)) (hw2 : ix w1 < 12) (hW : MW (B + 0 * 0) m0 m) (hc : JV (Ev mtab mcode d) jcX7_delayOf (48, [(0, .ref b), (1, .int w1)], []) (n, c, s, mm b (lf_X7_delayOf_20 w1 3000 m) M) o hf) : JV (Ev mtab mcode d) jcX7_delayOf (20, [(0, .ref b), (1, .int w1), (2, .int 0)], []) (n, c, s, mm b m M) o hf := by
  rw [lf_X7_delayOf_20_eq] at hc
  unfold ly_X7_delayOf_20 at hc
  exact lp_X7_delayOf_20 (B := B) (m0 := m0) hd hB hw1 hw2 3000 0 m (by omega) hW hc
noncomputable def y_X7_delayOf (m : Mem) (p1 : Int32) : Mem × Int32 := (if (x_X7_isPlane m p1) = true then ((x_X7_fine (x_X7_takesBack (lf_X7_delayOf_20 p1 3000 (x_X7_laysAside m))) (x_X7_of (lf_X7_delayOf_20 p1 3000 (x_X7_laysAside m)) (ix p1) 7)).1, (x_X7_fine (x_X7_takesBack (lf_X7_delayOf_20 p1 3000 (x_X7_laysAside m))) (x_X7_of (lf_X7_delayOf_20 p1 3000 (x_X7_laysAside m)) (ix p1) 7)).2) else ((x_X7_throwing m 1).1, (x_X7_throwing m 1).2))
theorem xe_X7_delayOf : ∃ f, f = y_X7_delayOf := ⟨y_X7_delayOf, rfl⟩
noncomputable def x_X7_delayOf := Classical.choose xe_X7_delayOf
theorem x_X7_delayOf_eq : x_X7_delayOf = y_X7_delayOf := Classical.choose_spec xe_X7_delayOf
theorem ev_X7_delayOf {d n c s b : Nat} {m : Mem} {M : JM} {p1 : Int32} {B : Nat} {m0 : Mem} {res : Mem × Int32} (hd : 8 ≤ d) (hW : MW B m0 m) (hB : B + 0 < 2147483648) (hx : x_X7_delayOf m p1 = res) : Ev mtab mcode d 139 [.ref b, .int p1] (n, c, s, mm b m M) (.inl (some (.int res.2))) (n, c, s, mm b res.1 M) := by
  obtain ⟨d, rfl⟩ : ∃ e, d = e + 1 := ⟨d - 1, by omega⟩
  rw [x_X7_delayOf_eq] at hx
  unfold y_X7_delayOf at hx
  refine jv_mk (m := mX7_delayOf) (cd := jcX7_delayOf) rfl rfl (Nat.le_of_ble_eq_true rfl) trivial ?_
  refine JV.ald (p2 := 1) rfl rfl rfl ?_
  refine JV.ild (p2 := 2) rfl rfl rfl ?_
  refine JV.invI (p2 := 5) rfl rfl rfl mm_M (Nat.le_of_ble_eq_true rfl) rfl (ev_X7_isPlane (by omega) rfl) ?_
  by_cases h5 : (x_X7_isPlane m p1) = true
  · rw [if_pos h5] at hx
    refine JV.brT rfl rfl (bI_t h5) ?_
    have e14 := is_P hW.1 h5
    have b14 := e14.2
    have c14 := hW.1.na.2
    refine JV.ald (p2 := 15) rfl rfl rfl ?_
    refine JV.inv0 (p2 := 18) rfl rfl rfl mm_M (Nat.le_of_ble_eq_true rfl) rfl (ev_X7_laysAside (by omega) hW (by omega) rfl) ?_
    refine JV.stk (len := 1) (sem := (s_push (.int 0))) (p2 := 19) rfl rfl rfl ?_
    refine JV.ist (p2 := 20) rfl rfl rfl ?_
    refine lq_X7_delayOf_20 (m := (x_X7_laysAside m)) (w1 := p1) (B := B) (m0 := m0) (by omega) (by omega) e14.1 (by omega) (MW.mono (fw_X7_laysAside hW (by omega)) (by omega)) ?_
    refine JV.ald (p2 := 49) rfl rfl rfl ?_
    refine JV.ild (p2 := 50) rfl rfl rfl ?_
    refine JV.stk (len := 2) (sem := (s_push (.int 7))) (p2 := 52) rfl rfl rfl ?_
    refine JV.invI (p2 := 55) rfl rfl rfl mm_M (Nat.le_of_ble_eq_true rfl) rfl (ev_X7_of (q := (ix p1)) (w := 7) (by omega) e14.1 rfl (by omega) (by omega) rfl) ?_
    refine JV.ist (p2 := 56) rfl rfl rfl ?_
    refine JV.ald (p2 := 57) rfl rfl rfl ?_
    refine JV.inv0 (p2 := 60) rfl rfl rfl mm_M (Nat.le_of_ble_eq_true rfl) rfl (ev_X7_takesBack (by omega) rfl) ?_
    refine JV.ald (p2 := 61) rfl rfl rfl ?_
    refine JV.ild (p2 := 62) rfl rfl rfl ?_
    refine JV.invI (p2 := 65) rfl rfl rfl mm_M (Nat.le_of_ble_eq_true rfl) rfl (ev_X7_fine (by omega) rfl) ?_
    subst hx
    exact JV.ret rfl (fun _ => rfl) rfl rfl
  · rw [if_neg h5] at hx
    refine JV.brF (p2 := 8) rfl rfl rfl (fun e => e (bI_f h5)) ?_
    refine JV.ald (p2 := 9) rfl rfl rfl ?_
    refine JV.stk (len := 1) (sem := (s_push (.int 1))) (p2 := 10) rfl rfl rfl ?_
    refine JV.invI (p2 := 13) rfl rfl rfl mm_M (Nat.le_of_ble_eq_true rfl) rfl (ev_X7_throwing (by omega) rfl) ?_
    subst hx
    exact JV.ret rfl (fun _ => rfl) rfl rfl
noncomputable def y_X7_minutesToAll (m : Mem) : Mem × Int32 := ((x_X7_fine ((x_X7_minutesIf m).1) ((x_X7_minutesIf m).2)).1, (x_X7_fine ((x_X7_minutesIf m).1) ((x_X7_minutesIf m).2)).2)
theorem xe_X7_minutesToAll : ∃ f, f = y_X7_minutesToAll := ⟨y_X7_minutesToAll, rfl⟩
noncomputable def x_X7_minutesToAll := Classical.choose xe_X7_minutesToAll
theorem x_X7_minutesToAll_eq : x_X7_minutesToAll = y_X7_minutesToAll := Classical.choose_spec xe_X7_minutesToAll
theorem ev_X7_minutesToAll {d n c s b : Nat} {m : Mem} {M : JM} {B : Nat} {m0 : Mem} {res : Mem × Int32} (hd : 10 ≤ d) (hW : MW B m0 m) (hB : B + 0 < 2147483648) (hx : x_X7_minutesToAll m = res) : Ev mtab mcode d 142 [.ref b] (n, c, s, mm b m M) (.inl (some (.int res.2))) (n, c, s, mm b res.1 M) := by
  obtain ⟨d, rfl⟩ : ∃ e, d = e + 1 := ⟨d - 1, by omega⟩
  rw [x_X7_minutesToAll_eq] at hx
  unfold y_X7_minutesToAll at hx
  refine jv_mk (m := mX7_minutesToAll) (cd := jcX7_minutesToAll) rfl rfl (Nat.le_of_ble_eq_true rfl) trivial ?_
  refine JV.ald (p2 := 1) rfl rfl rfl ?_
  refine JV.ald (p2 := 2) rfl rfl rfl ?_
  refine JV.invI (p2 := 5) rfl rfl rfl mm_M (Nat.le_of_ble_eq_true rfl) rfl (ev_X7_minutesIf (by omega) hW (by omega) rfl) ?_
  refine JV.invI (p2 := 8) rfl rfl rfl mm_M (Nat.le_of_ble_eq_true rfl) rfl (ev_X7_fine (by omega) rfl) ?_
  subst hx
  exact JV.ret rfl (fun _ => rfl) rfl rfl
noncomputable def bd_X7_undo_25 (j : Nat) (m : Mem) : Mem := (up3 m 1 0 j (m 2 0 ((245 * (ix (m 0 0 0))) + j)))
noncomputable def ly_X7_undo_25 (N : Nat) (m : Mem) : Mem := itr (fun jz s => bd_X7_undo_25 jz s) N 0 m
theorem le_X7_undo_25 : ∃ f, f = ly_X7_undo_25 := ⟨ly_X7_undo_25, rfl⟩
noncomputable def lf_X7_undo_25 := Classical.choose le_X7_undo_25
theorem lf_X7_undo_25_eq : lf_X7_undo_25 = ly_X7_undo_25 := Classical.choose_spec le_X7_undo_25
theorem fb_X7_undo_25 {j : Nat} {m : Mem} (hjN : j < 245) (hS : VN 3 (m 0 0 0)) : (VN 3 ((bd_X7_undo_25 j m) 0 0 0)) := by
  unfold bd_X7_undo_25
  have b32 := hS.2
  exact (by rw [up3_ne (by simp)]; exact hS)
theorem fl_X7_undo_25 {m : Mem} {N : Nat} (hNl : N = 245) (hS : VN 3 (m 0 0 0)) : (VN 3 ((lf_X7_undo_25 N m) 0 0 0)) := by
  rw [lf_X7_undo_25_eq]
  unfold ly_X7_undo_25
  exact itr_inv (n := N) (s := m) (P := fun jz s => (VN 3 (s 0 0 0))) (fun jz s => bd_X7_undo_25 jz s) (fun jz s hj hs => fb_X7_undo_25 (j := jz) (m := s) (by omega) hs) hS
theorem lp_X7_undo_25 {d n c s b : Nat} {M : JM} {o : JO} {hf : JH} (hd : 1 ≤ d) : ∀ (k j : Nat) (m : Mem), j + k = 245 → (VN 3 (m 0 0 0)) → JV (Ev mtab mcode d) jcX7_undo (59, [(0, .ref b)], []) (n, c, s, mm b (itr (fun jz s => bd_X7_undo_25 jz s) k j m) M) o hf → JV (Ev mtab mcode d) jcX7_undo (25, [(0, .ref b), (1, .int (nI j))], []) (n, c, s, mm b m M) o hf := by
  intro k
  induction k with
  | zero =>
    intro j m hj hS hc
    refine JV.ild (p2 := 26) rfl rfl rfl ?_
    refine JV.stk (len := 3) (sem := (s_push (.int 245))) (p2 := 29) rfl rfl rfl ?_
    refine JV.brT rfl rfl (by exact nI_le (a := 245) (b := j) (by omega) (by omega)) ?_
    exact JV.keep [0] rfl hc
  | succ k ih =>
    intro j m hj hS hc
    obtain ⟨s1, hx⟩ : ∃ s1, bd_X7_undo_25 j m = s1 := ⟨_, rfl⟩
    have hc2 : JV (Ev mtab mcode d) jcX7_undo (59, [(0, .ref b)], []) (n, c, s, mm b (itr (fun jz s => bd_X7_undo_25 jz s) k (j + 1) s1) M) o hf := by
      subst hx
      exact hc
    clear hc
    have iv := fb_X7_undo_25 (j := j) (m := m) (by omega) hS
    rw [hx] at iv
    unfold bd_X7_undo_25 at hx
    refine JV.ild (p2 := 26) rfl rfl rfl ?_
    refine JV.stk (len := 3) (sem := (s_push (.int 245))) (p2 := 29) rfl rfl rfl ?_
    refine JV.brF (p2 := 32) rfl rfl rfl (by exact nI_ge (a := j) (b := 245) (by omega) (by omega)) ?_
    have b32 := hS.2
    refine JV.ald (p2 := 33) rfl rfl rfl ?_
    refine JV.getf (p2 := 36) rfl mm_M rfl rfl ?_
    refine JV.ild (p2 := 37) rfl rfl rfl ?_
    refine JV.ald (p2 := 38) rfl rfl rfl ?_
    refine JV.getf (p2 := 41) rfl mm_M rfl rfl ?_
    refine JV.stk (len := 3) (sem := (s_push (.int 245))) (p2 := 44) rfl rfl rfl ?_
    refine JV.ald (p2 := 45) rfl rfl rfl ?_
    refine JV.getf (p2 := 48) rfl mm_M rfl rfl ?_
    refine JV.stk (len := 1) (sem := s_imul) (p2 := 49) rfl rfl rfl ?_
    refine JV.ild (p2 := 50) rfl rfl rfl ?_
    refine JV.stk (len := 1) (sem := s_iadd) (p2 := 51) rfl rfl rfl ?_
    refine JV.iald (p2 := 52) (j := ((245 * (ix (m 0 0 0))) + j)) rfl mm_2 (nI_addE (nI_mulE rfl hS.1) rfl) (by omega) (by decide) rfl ?_
    refine JV.iast (p2 := 53) (j := j) rfl mm_1 rfl (by omega) (by decide) (mm_w1 (k := j) rfl) rfl ?_
    refine JV.iinc (p2 := 56) rfl rfl (nI_1 _) rfl rfl ?_
    refine JV.goto rfl ?_
    subst hx
    exact ih (j + 1) _ (by omega) iv hc2
theorem lq_X7_undo_25 {d n c s b : Nat} {M : JM} {o : JO} {hf : JH} {m : Mem} (hd : 1 ≤ d) (hS : VN 3 (m 0 0 0)) (hc : JV (Ev mtab mcode d) jcX7_undo (59, [(0, .ref b)], []) (n, c, s, mm b (lf_X7_undo_25 245 m) M) o hf) : JV (Ev mtab mcode d) jcX7_undo (25, [(0, .ref b), (1, .int 0)], []) (n, c, s, mm b m M) o hf := by
  rw [lf_X7_undo_25_eq] at hc
  unfold ly_X7_undo_25 at hc
  exact lp_X7_undo_25 hd 245 0 m (by omega) hS hc
noncomputable def y_X7_undo (m : Mem) : Mem × Int32 := (if (m 0 0 0) = 0 then ((x_X7_throwing m 1).1, (x_X7_throwing m 1).2) else ((x_X7_fine (lf_X7_undo_25 245 (up3 m 0 0 0 ((m 0 0 0) - 1))) ((lf_X7_undo_25 245 (up3 m 0 0 0 ((m 0 0 0) - 1))) 0 0 0)).1, (x_X7_fine (lf_X7_undo_25 245 (up3 m 0 0 0 ((m 0 0 0) - 1))) ((lf_X7_undo_25 245 (up3 m 0 0 0 ((m 0 0 0) - 1))) 0 0 0)).2))
theorem xe_X7_undo : ∃ f, f = y_X7_undo := ⟨y_X7_undo, rfl⟩
noncomputable def x_X7_undo := Classical.choose xe_X7_undo
theorem x_X7_undo_eq : x_X7_undo = y_X7_undo := Classical.choose_spec xe_X7_undo
theorem ev_X7_undo {d n c s b : Nat} {m : Mem} {M : JM}  {res : Mem × Int32} (hd : 2 ≤ d) (hs : VN 4 (m 0 0 0)) (hx : x_X7_undo m = res) : Ev mtab mcode d 155 [.ref b] (n, c, s, mm b m M) (.inl (some (.int res.2))) (n, c, s, mm b res.1 M) := by
  obtain ⟨d, rfl⟩ : ∃ e, d = e + 1 := ⟨d - 1, by omega⟩
  rw [x_X7_undo_eq] at hx
  unfold y_X7_undo at hx
  refine jv_mk (m := mX7_undo) (cd := jcX7_undo) rfl rfl (Nat.le_of_ble_eq_true rfl) trivial ?_
  refine JV.ald (p2 := 1) rfl rfl rfl ?_
  refine JV.getf (p2 := 4) rfl mm_M rfl rfl ?_
  by_cases h4 : (m 0 0 0) = 0
  · rw [if_pos h4] at hx
    refine JV.brF (p2 := 7) rfl rfl rfl (fun e => e h4) ?_
    refine JV.ald (p2 := 8) rfl rfl rfl ?_
    refine JV.stk (len := 1) (sem := (s_push (.int 1))) (p2 := 9) rfl rfl rfl ?_
    refine JV.invI (p2 := 12) rfl rfl rfl mm_M (Nat.le_of_ble_eq_true rfl) rfl (ev_X7_throwing (by omega) rfl) ?_
    subst hx
    exact JV.ret rfl (fun _ => rfl) rfl rfl
  · rw [if_neg h4] at hx
    refine JV.brT rfl rfl h4 ?_
    refine JV.ald (p2 := 14) rfl rfl rfl ?_
    refine JV.stk (len := 1) (sem := s_dup) (p2 := 15) rfl rfl rfl ?_
    refine JV.getf (p2 := 18) rfl mm_M rfl rfl ?_
    refine JV.stk (len := 1) (sem := (s_push (.int 1))) (p2 := 19) rfl rfl rfl ?_
    refine JV.stk (len := 1) (sem := s_isub) (p2 := 20) rfl rfl rfl ?_
    refine JV.puti (p2 := 23) rfl mm_M (Nat.le_of_ble_eq_true rfl) (mm_wM (k := 0) rfl) rfl ?_
    refine JV.stk (len := 1) (sem := (s_push (.int 0))) (p2 := 24) rfl rfl rfl ?_
    refine JV.ist (p2 := 25) rfl rfl rfl ?_
    refine lq_X7_undo_25 (m := (up3 m 0 0 0 ((m 0 0 0) - 1))) (by omega) (by rw [up3_self]; exact vn_41 hs h4) ?_
    refine JV.ald (p2 := 60) rfl rfl rfl ?_
    refine JV.ald (p2 := 61) rfl rfl rfl ?_
    refine JV.getf (p2 := 64) rfl mm_M rfl rfl ?_
    refine JV.invI (p2 := 67) rfl rfl rfl mm_M (Nat.le_of_ble_eq_true rfl) rfl (ev_X7_fine (by omega) rfl) ?_
    subst hx
    exact JV.ret rfl (fun _ => rfl) rfl rfl
noncomputable def y_X7_delaysWithTug (m : Mem) (p1 : Int32) : Mem × Int32 := (if (x_X7_in ((p1).toInt64) 1 3) = true then (if (m 1 0 1) = 3 then ((x_X7_fine m (-1)).1, (x_X7_fine m (-1)).2) else (if (x_X7_toAll (up3 (up3 (up3 (up3 (x_X7_laysAside m) 1 0 (20 + 5 * (ix (m 1 0 1)) + 0) p1) 1 0 (20 + 5 * (ix (m 1 0 1)) + 1) (-1)) 1 0 (20 + 5 * (ix (m 1 0 1)) + 2) 0) 1 0 1 (((up3 (up3 (up3 (x_X7_laysAside m) 1 0 (20 + 5 * (ix (m 1 0 1)) + 0) p1) 1 0 (20 + 5 * (ix (m 1 0 1)) + 1) (-1)) 1 0 (20 + 5 * (ix (m 1 0 1)) + 2) 0) 1 0 1) + 1))).2 = (-1) then ((x_X7_fine (x_X7_takesBack ((x_X7_toAll (up3 (up3 (up3 (up3 (x_X7_laysAside m) 1 0 (20 + 5 * (ix (m 1 0 1)) + 0) p1) 1 0 (20 + 5 * (ix (m 1 0 1)) + 1) (-1)) 1 0 (20 + 5 * (ix (m 1 0 1)) + 2) 0) 1 0 1 (((up3 (up3 (up3 (x_X7_laysAside m) 1 0 (20 + 5 * (ix (m 1 0 1)) + 0) p1) 1 0 (20 + 5 * (ix (m 1 0 1)) + 1) (-1)) 1 0 (20 + 5 * (ix (m 1 0 1)) + 2) 0) 1 0 1) + 1))).1)) (-1)).1, (x_X7_fine (x_X7_takesBack ((x_X7_toAll (up3 (up3 (up3 (up3 (x_X7_laysAside m) 1 0 (20 + 5 * (ix (m 1 0 1)) + 0) p1) 1 0 (20 + 5 * (ix (m 1 0 1)) + 1) (-1)) 1 0 (20 + 5 * (ix (m 1 0 1)) + 2) 0) 1 0 1 (((up3 (up3 (up3 (x_X7_laysAside m) 1 0 (20 + 5 * (ix (m 1 0 1)) + 0) p1) 1 0 (20 + 5 * (ix (m 1 0 1)) + 1) (-1)) 1 0 (20 + 5 * (ix (m 1 0 1)) + 2) 0) 1 0 1) + 1))).1)) (-1)).2) else ((x_X7_fine (x_X7_takesBack ((x_X7_toAll (up3 (up3 (up3 (up3 (x_X7_laysAside m) 1 0 (20 + 5 * (ix (m 1 0 1)) + 0) p1) 1 0 (20 + 5 * (ix (m 1 0 1)) + 1) (-1)) 1 0 (20 + 5 * (ix (m 1 0 1)) + 2) 0) 1 0 1 (((up3 (up3 (up3 (x_X7_laysAside m) 1 0 (20 + 5 * (ix (m 1 0 1)) + 0) p1) 1 0 (20 + 5 * (ix (m 1 0 1)) + 1) (-1)) 1 0 (20 + 5 * (ix (m 1 0 1)) + 2) 0) 1 0 1) + 1))).1)) (x_X7_delays ((x_X7_toAll (up3 (up3 (up3 (up3 (x_X7_laysAside m) 1 0 (20 + 5 * (ix (m 1 0 1)) + 0) p1) 1 0 (20 + 5 * (ix (m 1 0 1)) + 1) (-1)) 1 0 (20 + 5 * (ix (m 1 0 1)) + 2) 0) 1 0 1 (((up3 (up3 (up3 (x_X7_laysAside m) 1 0 (20 + 5 * (ix (m 1 0 1)) + 0) p1) 1 0 (20 + 5 * (ix (m 1 0 1)) + 1) (-1)) 1 0 (20 + 5 * (ix (m 1 0 1)) + 2) 0) 1 0 1) + 1))).1) 0)).1, (x_X7_fine (x_X7_takesBack ((x_X7_toAll (up3 (up3 (up3 (up3 (x_X7_laysAside m) 1 0 (20 + 5 * (ix (m 1 0 1)) + 0) p1) 1 0 (20 + 5 * (ix (m 1 0 1)) + 1) (-1)) 1 0 (20 + 5 * (ix (m 1 0 1)) + 2) 0) 1 0 1 (((up3 (up3 (up3 (x_X7_laysAside m) 1 0 (20 + 5 * (ix (m 1 0 1)) + 0) p1) 1 0 (20 + 5 * (ix (m 1 0 1)) + 1) (-1)) 1 0 (20 + 5 * (ix (m 1 0 1)) + 2) 0) 1 0 1) + 1))).1)) (x_X7_delays ((x_X7_toAll (up3 (up3 (up3 (up3 (x_X7_laysAside m) 1 0 (20 + 5 * (ix (m 1 0 1)) + 0) p1) 1 0 (20 + 5 * (ix (m 1 0 1)) + 1) (-1)) 1 0 (20 + 5 * (ix (m 1 0 1)) + 2) 0) 1 0 1 (((up3 (up3 (up3 (x_X7_laysAside m) 1 0 (20 + 5 * (ix (m 1 0 1)) + 0) p1) 1 0 (20 + 5 * (ix (m 1 0 1)) + 1) (-1)) 1 0 (20 + 5 * (ix (m 1 0 1)) + 2) 0) 1 0 1) + 1))).1) 0)).2))) else ((x_X7_throwing m 1).1, (x_X7_throwing m 1).2))
theorem xe_X7_delaysWithTug : ∃ f, f = y_X7_delaysWithTug := ⟨y_X7_delaysWithTug, rfl⟩
noncomputable def x_X7_delaysWithTug := Classical.choose xe_X7_delaysWithTug
theorem x_X7_delaysWithTug_eq : x_X7_delaysWithTug = y_X7_delaysWithTug := Classical.choose_spec xe_X7_delaysWithTug
theorem ev_X7_delaysWithTug {d n c s b : Nat} {m : Mem} {M : JM} {p1 : Int32} {B : Nat} {m0 : Mem} {res : Mem × Int32} (hd : 9 ≤ d) (hW : MW B m0 m) (hB : B + 0 < 2147483648) (hx : x_X7_delaysWithTug m p1 = res) : Ev mtab mcode d 143 [.ref b, .int p1] (n, c, s, mm b m M) (.inl (some (.int res.2))) (n, c, s, mm b res.1 M) := by
  obtain ⟨d, rfl⟩ : ∃ e, d = e + 1 := ⟨d - 1, by omega⟩
  rw [x_X7_delaysWithTug_eq] at hx
  unfold y_X7_delaysWithTug at hx
  refine jv_mk (m := mX7_delaysWithTug) (cd := jcX7_delaysWithTug) rfl rfl (Nat.le_of_ble_eq_true rfl) trivial ?_
  refine JV.ild (p2 := 1) rfl rfl rfl ?_
  refine JV.stk (len := 1) (sem := s_i2l) (p2 := 2) rfl rfl rfl ?_
  refine JV.stk (len := 1) (sem := (s_push (.long 1))) (p2 := 3) rfl rfl rfl ?_
  refine JV.ldc2 (p2 := 6) rfl rfl ?_
  refine JV.insI (p2 := 9) rfl (Nat.le_of_ble_eq_true rfl) rfl rfl (Nat.le_of_ble_eq_true rfl) rfl (ev_X7_in (by omega) rfl) rfl ?_
  by_cases h9 : (x_X7_in ((p1).toInt64) 1 3) = true
  · rw [if_pos h9] at hx
    refine JV.brT rfl rfl (bI_t h9) ?_
    refine JV.ald (p2 := 19) rfl rfl rfl ?_
    refine JV.getf (p2 := 22) rfl mm_M rfl rfl ?_
    refine JV.stk (len := 1) (sem := (s_push (.int 1))) (p2 := 23) rfl rfl rfl ?_
    refine JV.iald (p2 := 24) (j := 1) rfl mm_1 rfl (by omega) (by decide) rfl ?_
    refine JV.stk (len := 1) (sem := (s_push (.int 3))) (p2 := 25) rfl rfl rfl ?_
    by_cases h25 : (m 1 0 1) = 3
    · rw [if_pos h25] at hx
      refine JV.brF (p2 := 28) rfl rfl rfl (fun e => e h25) ?_
      refine JV.ald (p2 := 29) rfl rfl rfl ?_
      refine JV.stk (len := 1) (sem := (s_push (.int (-1)))) (p2 := 30) rfl rfl rfl ?_
      refine JV.invI (p2 := 33) rfl rfl rfl mm_M (Nat.le_of_ble_eq_true rfl) rfl (ev_X7_fine (by omega) rfl) ?_
      subst hx
      exact JV.ret rfl (fun _ => rfl) rfl rfl
    · rw [if_neg h25] at hx
      refine JV.brT rfl rfl h25 ?_
      have b34 : ix (m 1 0 1) < 3 := vn_3 hW.1.nt h25
      have e34 : x_X7_laysAside m 1 0 1 = nI (ix (m 1 0 1)) := MW.cN (fw_X7_laysAside hW (by omega)) hW (by decide)
      refine JV.ald (p2 := 35) rfl rfl rfl ?_
      refine JV.inv0 (p2 := 38) rfl rfl rfl mm_M (Nat.le_of_ble_eq_true rfl) rfl (ev_X7_laysAside (by omega) hW (by omega) rfl) ?_
      refine JV.ald (p2 := 39) rfl rfl rfl ?_
      refine JV.getf (p2 := 42) rfl mm_M rfl rfl ?_
      refine JV.stk (len := 1) (sem := (s_push (.int 1))) (p2 := 43) rfl rfl rfl ?_
      refine JV.iald (p2 := 44) (j := 1) rfl mm_1 rfl (by omega) (by decide) rfl ?_
      refine JV.ist (p2 := 45) rfl rfl rfl ?_
      refine JV.ald (p2 := 46) rfl rfl rfl ?_
      refine JV.getf (p2 := 49) rfl mm_M rfl rfl ?_
      refine JV.ild (p2 := 50) rfl rfl rfl ?_
      refine JV.stk (len := 1) (sem := (s_push (.int 0))) (p2 := 51) rfl rfl rfl ?_
      refine JV.insI (p2 := 54) rfl (Nat.le_of_ble_eq_true rfl) rfl rfl (Nat.le_of_ble_eq_true rfl) rfl (ev_X7_tugAt (by omega) rfl) rfl ?_
      refine JV.ild (p2 := 55) rfl rfl rfl ?_
      refine JV.iast (p2 := 56) (j := (20 + 5 * (ix (m 1 0 1)) + 0)) rfl mm_1 (ta_at e34 rfl) (by omega) (by decide) (mm_w1 (k := (20 + 5 * (ix (m 1 0 1)) + 0)) rfl) rfl ?_
      refine JV.ald (p2 := 57) rfl rfl rfl ?_
      refine JV.getf (p2 := 60) rfl mm_M rfl rfl ?_
      refine JV.ild (p2 := 61) rfl rfl rfl ?_
      refine JV.stk (len := 1) (sem := (s_push (.int 1))) (p2 := 62) rfl rfl rfl ?_
      refine JV.insI (p2 := 65) rfl (Nat.le_of_ble_eq_true rfl) rfl rfl (Nat.le_of_ble_eq_true rfl) rfl (ev_X7_tugAt (by omega) rfl) rfl ?_
      refine JV.stk (len := 1) (sem := (s_push (.int (-1)))) (p2 := 66) rfl rfl rfl ?_
      refine JV.iast (p2 := 67) (j := (20 + 5 * (ix (m 1 0 1)) + 1)) rfl mm_1 (ta_at e34 rfl) (by omega) (by decide) (mm_w1 (k := (20 + 5 * (ix (m 1 0 1)) + 1)) rfl) rfl ?_
      refine JV.ald (p2 := 68) rfl rfl rfl ?_
      refine JV.getf (p2 := 71) rfl mm_M rfl rfl ?_
      refine JV.ild (p2 := 72) rfl rfl rfl ?_
      refine JV.stk (len := 1) (sem := (s_push (.int 2))) (p2 := 73) rfl rfl rfl ?_
      refine JV.insI (p2 := 76) rfl (Nat.le_of_ble_eq_true rfl) rfl rfl (Nat.le_of_ble_eq_true rfl) rfl (ev_X7_tugAt (by omega) rfl) rfl ?_
      refine JV.stk (len := 1) (sem := (s_push (.int 0))) (p2 := 77) rfl rfl rfl ?_
      refine JV.iast (p2 := 78) (j := (20 + 5 * (ix (m 1 0 1)) + 2)) rfl mm_1 (ta_at e34 rfl) (by omega) (by decide) (mm_w1 (k := (20 + 5 * (ix (m 1 0 1)) + 2)) rfl) rfl ?_
      refine JV.ald (p2 := 79) rfl rfl rfl ?_
      refine JV.getf (p2 := 82) rfl mm_M rfl rfl ?_
      refine JV.stk (len := 1) (sem := (s_push (.int 1))) (p2 := 83) rfl rfl rfl ?_
      refine JV.stk (len := 1) (sem := s_dup2) (p2 := 84) rfl rfl rfl ?_
      refine JV.iald (p2 := 85) (j := 1) rfl mm_1 rfl (by omega) (by decide) rfl ?_
      refine JV.stk (len := 1) (sem := (s_push (.int 1))) (p2 := 86) rfl rfl rfl ?_
      refine JV.stk (len := 1) (sem := s_iadd) (p2 := 87) rfl rfl rfl ?_
      refine JV.iast (p2 := 88) (j := 1) rfl mm_1 rfl (by omega) (by decide) (mm_w1 (k := 1) rfl) rfl ?_
      refine JV.ald (p2 := 89) rfl rfl rfl ?_
      refine JV.invI (p2 := 92) rfl rfl rfl mm_M (Nat.le_of_ble_eq_true rfl) rfl (ev_X7_toAll (by omega) (mw_addt hW h25 (MW.up (MW.upT (MW.up (fw_X7_laysAside hW (by omega)) (by unfold mok; omega)) (by omega) (Or.inl rfl)) (by unfold mok; omega))) (by omega) rfl) ?_
      refine JV.stk (len := 1) (sem := (s_push (.int (-1)))) (p2 := 93) rfl rfl rfl ?_
      by_cases h93 : (x_X7_toAll (up3 (up3 (up3 (up3 (x_X7_laysAside m) 1 0 (20 + 5 * (ix (m 1 0 1)) + 0) p1) 1 0 (20 + 5 * (ix (m 1 0 1)) + 1) (-1)) 1 0 (20 + 5 * (ix (m 1 0 1)) + 2) 0) 1 0 1 (((up3 (up3 (up3 (x_X7_laysAside m) 1 0 (20 + 5 * (ix (m 1 0 1)) + 0) p1) 1 0 (20 + 5 * (ix (m 1 0 1)) + 1) (-1)) 1 0 (20 + 5 * (ix (m 1 0 1)) + 2) 0) 1 0 1) + 1))).2 = (-1)
      · rw [if_pos h93] at hx
        refine JV.brF (p2 := 96) rfl rfl rfl (fun e => e h93) ?_
        refine JV.stk (len := 1) (sem := (s_push (.int (-1)))) (p2 := 97) rfl rfl rfl ?_
        refine JV.goto rfl ?_
        refine JV.ist (p2 := 106) rfl rfl rfl ?_
        refine JV.ald (p2 := 107) rfl rfl rfl ?_
        refine JV.inv0 (p2 := 110) rfl rfl rfl mm_M (Nat.le_of_ble_eq_true rfl) rfl (ev_X7_takesBack (by omega) rfl) ?_
        refine JV.ald (p2 := 111) rfl rfl rfl ?_
        refine JV.ild (p2 := 112) rfl rfl rfl ?_
        refine JV.invI (p2 := 115) rfl rfl rfl mm_M (Nat.le_of_ble_eq_true rfl) rfl (ev_X7_fine (by omega) rfl) ?_
        subst hx
        exact JV.ret rfl (fun _ => rfl) rfl rfl
      · rw [if_neg h93] at hx
        refine JV.brT rfl rfl h93 ?_
        refine JV.ald (p2 := 101) rfl rfl rfl ?_
        refine JV.stk (len := 1) (sem := (s_push (.int 0))) (p2 := 102) rfl rfl rfl ?_
        refine JV.invI (p2 := 105) rfl rfl rfl mm_M (Nat.le_of_ble_eq_true rfl) rfl (ev_X7_delays (by omega) (fw_X7_toAll (mw_addt hW h25 (MW.up (MW.upT (MW.up (fw_X7_laysAside hW (by omega)) (by unfold mok; omega)) (by omega) (Or.inl rfl)) (by unfold mok; omega))) (by omega)).1 rfl) ?_
        refine JV.ist (p2 := 106) rfl rfl rfl ?_
        refine JV.ald (p2 := 107) rfl rfl rfl ?_
        refine JV.inv0 (p2 := 110) rfl rfl rfl mm_M (Nat.le_of_ble_eq_true rfl) rfl (ev_X7_takesBack (by omega) rfl) ?_
        refine JV.ald (p2 := 111) rfl rfl rfl ?_
        refine JV.ild (p2 := 112) rfl rfl rfl ?_
        refine JV.invI (p2 := 115) rfl rfl rfl mm_M (Nat.le_of_ble_eq_true rfl) rfl (ev_X7_fine (by omega) rfl) ?_
        subst hx
        exact JV.ret rfl (fun _ => rfl) rfl rfl
  · rw [if_neg h9] at hx
    refine JV.brF (p2 := 12) rfl rfl rfl (fun e => e (bI_f h9)) ?_
    refine JV.ald (p2 := 13) rfl rfl rfl ?_
    refine JV.stk (len := 1) (sem := (s_push (.int 1))) (p2 := 14) rfl rfl rfl ?_
    refine JV.invI (p2 := 17) rfl rfl rfl mm_M (Nat.le_of_ble_eq_true rfl) rfl (ev_X7_throwing (by omega) rfl) ?_
    subst hx
    exact JV.ret rfl (fun _ => rfl) rfl rfl
