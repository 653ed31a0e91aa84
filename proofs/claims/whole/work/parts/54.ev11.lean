theorem mw_addc {B B' : Nat} {m0 m m' : Mem} (hW : MW B m0 m) (hc : ix (m 1 0 2) < 12) (h : MW B' m0 m') : MW B' (up3 m0 1 0 2 (m0 1 0 2 + 1)) (up3 m' 1 0 2 (m' 1 0 2 + 1)) := by
  have e : m' 1 0 2 = m0 1 0 2 := h.2.2 2 (by decide)
  have e2 : m 1 0 2 = m0 1 0 2 := hW.2.2 2 (by decide)
  rw [e2] at hc
  have hv : VN 12 (m0 1 0 2 + 1) := by
    have q := hW.1.na.1
    rw [e2] at q
    have e3 : m0 1 0 2 + 1 = nI (ix (m0 1 0 2) + 1) := by rw [← nI_1, ← q]
    unfold VN
    rw [e3, ix_nI (by omega)]
    exact ⟨rfl, by omega⟩
  refine ⟨⟨?_, ?_, ?_, ?_, ?_, ?_, ?_⟩, rfl, fun q hq => ?_⟩
  · rw [up3_k (by decide)]; exact h.1.1
  · rw [up3_k (by decide)]; exact h.1.2.1
  · rw [up3_self, e]; exact hv
  · rw [up3_k (by decide)]; exact h.1.2.2.2.1
  · rw [up3_k (by decide)]; exact h.1.2.2.2.2.1
  · rw [up3_k (by decide)]; exact h.1.2.2.2.2.2.1
  · rw [up3_k (by decide)]; exact h.1.2.2.2.2.2.2
  · by_cases g : q = 2
    · subst g
      rw [up3_self, up3_self, e]
    · rw [up3_k g, up3_k g]
      exact h.2.2 q hq
noncomputable def y_X7_adds (m : Mem) (p1 : Int32) (p2 : Int32) (p3 : Int32) (p4 : Int32) (p5 : Int32) : Mem := (up3 (up3 (up3 (up3 (up3 (up3 (up3 (up3 (up3 (up3 (up3 m 1 0 (35 + 10 * (ix (m 1 0 2)) + 0) p1) 1 0 (35 + 10 * (ix (m 1 0 2)) + 1) p2) 1 0 (35 + 10 * (ix (m 1 0 2)) + 2) p3) 1 0 (35 + 10 * (ix (m 1 0 2)) + 3) p4) 1 0 (35 + 10 * (ix (m 1 0 2)) + 4) p5) 1 0 (35 + 10 * (ix (m 1 0 2)) + 5) 0) 1 0 (35 + 10 * (ix (m 1 0 2)) + 6) (-1)) 1 0 (35 + 10 * (ix (m 1 0 2)) + 7) (-1)) 1 0 (35 + 10 * (ix (m 1 0 2)) + 8) 0) 1 0 (35 + 10 * (ix (m 1 0 2)) + 9) 0) 1 0 2 (((up3 (up3 (up3 (up3 (up3 (up3 (up3 (up3 (up3 (up3 m 1 0 (35 + 10 * (ix (m 1 0 2)) + 0) p1) 1 0 (35 + 10 * (ix (m 1 0 2)) + 1) p2) 1 0 (35 + 10 * (ix (m 1 0 2)) + 2) p3) 1 0 (35 + 10 * (ix (m 1 0 2)) + 3) p4) 1 0 (35 + 10 * (ix (m 1 0 2)) + 4) p5) 1 0 (35 + 10 * (ix (m 1 0 2)) + 5) 0) 1 0 (35 + 10 * (ix (m 1 0 2)) + 6) (-1)) 1 0 (35 + 10 * (ix (m 1 0 2)) + 7) (-1)) 1 0 (35 + 10 * (ix (m 1 0 2)) + 8) 0) 1 0 (35 + 10 * (ix (m 1 0 2)) + 9) 0) 1 0 2) + 1))
theorem xe_X7_adds : ∃ f, f = y_X7_adds := ⟨y_X7_adds, rfl⟩
noncomputable def x_X7_adds := Classical.choose xe_X7_adds
theorem x_X7_adds_eq : x_X7_adds = y_X7_adds := Classical.choose_spec xe_X7_adds
theorem ev_X7_adds {d n c s b : Nat} {m : Mem} {M : JM} {p1 : Int32} {p2 : Int32} {p3 : Int32} {p4 : Int32} {p5 : Int32} {B : Nat} {m0 : Mem} {res : Mem} (hd : 2 ≤ d) (hW : MW B m0 m) (hB : B + 0 < 2147483648) (hc : ix (m 1 0 2) < 12) (hx : x_X7_adds m p1 p2 p3 p4 p5 = res) : Ev mtab mcode d 110 [.ref b, .int p1, .int p2, .int p3, .int p4, .int p5] (n, c, s, mm b m M) (.inl none) (n, c, s, mm b res M) := by
  obtain ⟨d, rfl⟩ : ∃ e, d = e + 1 := ⟨d - 1, by omega⟩
  rw [x_X7_adds_eq] at hx
  unfold y_X7_adds at hx
  refine jv_mk (m := mX7_adds) (cd := jcX7_adds) rfl rfl (Nat.le_of_ble_eq_true rfl) trivial ?_
  refine JV.ald (p2 := 1) rfl rfl rfl ?_
  refine JV.getf (p2 := 4) rfl mm_M rfl rfl ?_
  refine JV.stk (len := 1) (sem := (s_push (.int 2))) (p2 := 5) rfl rfl rfl ?_
  refine JV.iald (p2 := 6) (j := 2) rfl mm_1 rfl (by omega) (by decide) rfl ?_
  refine JV.ist (p2 := 8) rfl rfl rfl ?_
  refine JV.ald (p2 := 9) rfl rfl rfl ?_
  refine JV.getf (p2 := 12) rfl mm_M rfl rfl ?_
  refine JV.ild (p2 := 14) rfl rfl rfl ?_
  refine JV.stk (len := 1) (sem := (s_push (.int 0))) (p2 := 15) rfl rfl rfl ?_
  refine JV.insI (p2 := 18) rfl (Nat.le_of_ble_eq_true rfl) rfl rfl (Nat.le_of_ble_eq_true rfl) rfl (ev_X7_planeAt (by omega) rfl) rfl ?_
  refine JV.ild (p2 := 19) rfl rfl rfl ?_
  refine JV.iast (p2 := 20) (j := (35 + 10 * (ix (m 1 0 2)) + 0)) rfl mm_1 (pa_at hW.1.na.1 rfl) (by omega) (by decide) (mm_w1 (k := (35 + 10 * (ix (m 1 0 2)) + 0)) rfl) rfl ?_
  refine JV.ald (p2 := 21) rfl rfl rfl ?_
  refine JV.getf (p2 := 24) rfl mm_M rfl rfl ?_
  refine JV.ild (p2 := 26) rfl rfl rfl ?_
  refine JV.stk (len := 1) (sem := (s_push (.int 1))) (p2 := 27) rfl rfl rfl ?_
  refine JV.insI (p2 := 30) rfl (Nat.le_of_ble_eq_true rfl) rfl rfl (Nat.le_of_ble_eq_true rfl) rfl (ev_X7_planeAt (by omega) rfl) rfl ?_
  refine JV.ild (p2 := 31) rfl rfl rfl ?_
  refine JV.iast (p2 := 32) (j := (35 + 10 * (ix (m 1 0 2)) + 1)) rfl mm_1 (pa_at hW.1.na.1 rfl) (by omega) (by decide) (mm_w1 (k := (35 + 10 * (ix (m 1 0 2)) + 1)) rfl) rfl ?_
  refine JV.ald (p2 := 33) rfl rfl rfl ?_
  refine JV.getf (p2 := 36) rfl mm_M rfl rfl ?_
  refine JV.ild (p2 := 38) rfl rfl rfl ?_
  refine JV.stk (len := 1) (sem := (s_push (.int 2))) (p2 := 39) rfl rfl rfl ?_
  refine JV.insI (p2 := 42) rfl (Nat.le_of_ble_eq_true rfl) rfl rfl (Nat.le_of_ble_eq_true rfl) rfl (ev_X7_planeAt (by omega) rfl) rfl ?_
  refine JV.ild (p2 := 43) rfl rfl rfl ?_
  refine JV.iast (p2 := 44) (j := (35 + 10 * (ix (m 1 0 2)) + 2)) rfl mm_1 (pa_at hW.1.na.1 rfl) (by omega) (by decide) (mm_w1 (k := (35 + 10 * (ix (m 1 0 2)) + 2)) rfl) rfl ?_
  refine JV.ald (p2 := 45) rfl rfl rfl ?_
  refine JV.getf (p2 := 48) rfl mm_M rfl rfl ?_
  refine JV.ild (p2 := 50) rfl rfl rfl ?_
  refine JV.stk (len := 1) (sem := (s_push (.int 3))) (p2 := 51) rfl rfl rfl ?_
  refine JV.insI (p2 := 54) rfl (Nat.le_of_ble_eq_true rfl) rfl rfl (Nat.le_of_ble_eq_true rfl) rfl (ev_X7_planeAt (by omega) rfl) rfl ?_
  refine JV.ild (p2 := 56) rfl rfl rfl ?_
  refine JV.iast (p2 := 57) (j := (35 + 10 * (ix (m 1 0 2)) + 3)) rfl mm_1 (pa_at hW.1.na.1 rfl) (by omega) (by decide) (mm_w1 (k := (35 + 10 * (ix (m 1 0 2)) + 3)) rfl) rfl ?_
  refine JV.ald (p2 := 58) rfl rfl rfl ?_
  refine JV.getf (p2 := 61) rfl mm_M rfl rfl ?_
  refine JV.ild (p2 := 63) rfl rfl rfl ?_
  refine JV.stk (len := 1) (sem := (s_push (.int 4))) (p2 := 64) rfl rfl rfl ?_
  refine JV.insI (p2 := 67) rfl (Nat.le_of_ble_eq_true rfl) rfl rfl (Nat.le_of_ble_eq_true rfl) rfl (ev_X7_planeAt (by omega) rfl) rfl ?_
  refine JV.ild (p2 := 69) rfl rfl rfl ?_
  refine JV.iast (p2 := 70) (j := (35 + 10 * (ix (m 1 0 2)) + 4)) rfl mm_1 (pa_at hW.1.na.1 rfl) (by omega) (by decide) (mm_w1 (k := (35 + 10 * (ix (m 1 0 2)) + 4)) rfl) rfl ?_
  refine JV.ald (p2 := 71) rfl rfl rfl ?_
  refine JV.getf (p2 := 74) rfl mm_M rfl rfl ?_
  refine JV.ild (p2 := 76) rfl rfl rfl ?_
  refine JV.stk (len := 1) (sem := (s_push (.int 5))) (p2 := 77) rfl rfl rfl ?_
  refine JV.insI (p2 := 80) rfl (Nat.le_of_ble_eq_true rfl) rfl rfl (Nat.le_of_ble_eq_true rfl) rfl (ev_X7_planeAt (by omega) rfl) rfl ?_
  refine JV.stk (len := 1) (sem := (s_push (.int 0))) (p2 := 81) rfl rfl rfl ?_
  refine JV.iast (p2 := 82) (j := (35 + 10 * (ix (m 1 0 2)) + 5)) rfl mm_1 (pa_at hW.1.na.1 rfl) (by omega) (by decide) (mm_w1 (k := (35 + 10 * (ix (m 1 0 2)) + 5)) rfl) rfl ?_
  refine JV.ald (p2 := 83) rfl rfl rfl ?_
  refine JV.getf (p2 := 86) rfl mm_M rfl rfl ?_
  refine JV.ild (p2 := 88) rfl rfl rfl ?_
  refine JV.stk (len := 2) (sem := (s_push (.int 6))) (p2 := 90) rfl rfl rfl ?_
  refine JV.insI (p2 := 93) rfl (Nat.le_of_ble_eq_true rfl) rfl rfl (Nat.le_of_ble_eq_true rfl) rfl (ev_X7_planeAt (by omega) rfl) rfl ?_
  refine JV.stk (len := 1) (sem := (s_push (.int (-1)))) (p2 := 94) rfl rfl rfl ?_
  refine JV.iast (p2 := 95) (j := (35 + 10 * (ix (m 1 0 2)) + 6)) rfl mm_1 (pa_at hW.1.na.1 rfl) (by omega) (by decide) (mm_w1 (k := (35 + 10 * (ix (m 1 0 2)) + 6)) rfl) rfl ?_
  refine JV.ald (p2 := 96) rfl rfl rfl ?_
  refine JV.getf (p2 := 99) rfl mm_M rfl rfl ?_
  refine JV.ild (p2 := 101) rfl rfl rfl ?_
  refine JV.stk (len := 2) (sem := (s_push (.int 7))) (p2 := 103) rfl rfl rfl ?_
  refine JV.insI (p2 := 106) rfl (Nat.le_of_ble_eq_true rfl) rfl rfl (Nat.le_of_ble_eq_true rfl) rfl (ev_X7_planeAt (by omega) rfl) rfl ?_
  refine JV.stk (len := 1) (sem := (s_push (.int (-1)))) (p2 := 107) rfl rfl rfl ?_
  refine JV.iast (p2 := 108) (j := (35 + 10 * (ix (m 1 0 2)) + 7)) rfl mm_1 (pa_at hW.1.na.1 rfl) (by omega) (by decide) (mm_w1 (k := (35 + 10 * (ix (m 1 0 2)) + 7)) rfl) rfl ?_
  refine JV.ald (p2 := 109) rfl rfl rfl ?_
  refine JV.getf (p2 := 112) rfl mm_M rfl rfl ?_
  refine JV.ild (p2 := 114) rfl rfl rfl ?_
  refine JV.stk (len := 2) (sem := (s_push (.int 8))) (p2 := 116) rfl rfl rfl ?_
  refine JV.insI (p2 := 119) rfl (Nat.le_of_ble_eq_true rfl) rfl rfl (Nat.le_of_ble_eq_true rfl) rfl (ev_X7_planeAt (by omega) rfl) rfl ?_
  refine JV.stk (len := 1) (sem := (s_push (.int 0))) (p2 := 120) rfl rfl rfl ?_
  refine JV.iast (p2 := 121) (j := (35 + 10 * (ix (m 1 0 2)) + 8)) rfl mm_1 (pa_at hW.1.na.1 rfl) (by omega) (by decide) (mm_w1 (k := (35 + 10 * (ix (m 1 0 2)) + 8)) rfl) rfl ?_
  refine JV.ald (p2 := 122) rfl rfl rfl ?_
  refine JV.getf (p2 := 125) rfl mm_M rfl rfl ?_
  refine JV.ild (p2 := 127) rfl rfl rfl ?_
  refine JV.stk (len := 2) (sem := (s_push (.int 9))) (p2 := 129) rfl rfl rfl ?_
  refine JV.insI (p2 := 132) rfl (Nat.le_of_ble_eq_true rfl) rfl rfl (Nat.le_of_ble_eq_true rfl) rfl (ev_X7_planeAt (by omega) rfl) rfl ?_
  refine JV.stk (len := 1) (sem := (s_push (.int 0))) (p2 := 133) rfl rfl rfl ?_
  refine JV.iast (p2 := 134) (j := (35 + 10 * (ix (m 1 0 2)) + 9)) rfl mm_1 (pa_at hW.1.na.1 rfl) (by omega) (by decide) (mm_w1 (k := (35 + 10 * (ix (m 1 0 2)) + 9)) rfl) rfl ?_
  refine JV.ald (p2 := 135) rfl rfl rfl ?_
  refine JV.getf (p2 := 138) rfl mm_M rfl rfl ?_
  refine JV.stk (len := 1) (sem := (s_push (.int 2))) (p2 := 139) rfl rfl rfl ?_
  refine JV.stk (len := 1) (sem := s_dup2) (p2 := 140) rfl rfl rfl ?_
  refine JV.iald (p2 := 141) (j := 2) rfl mm_1 rfl (by omega) (by decide) rfl ?_
  refine JV.stk (len := 1) (sem := (s_push (.int 1))) (p2 := 142) rfl rfl rfl ?_
  refine JV.stk (len := 1) (sem := s_iadd) (p2 := 143) rfl rfl rfl ?_
  refine JV.iast (p2 := 144) (j := 2) rfl mm_1 rfl (by omega) (by decide) (mm_w1 (k := 2) rfl) rfl ?_
  subst hx
  exact JV.ret rfl (fun _ => rfl) rfl rfl
theorem fw_X7_adds {m : Mem} {p1 : Int32} {p2 : Int32} {p3 : Int32} {p4 : Int32} {p5 : Int32} {B : Nat} {m0 : Mem} (hW : MW B m0 m) (hB : B + 0 < 2147483648) (hc : ix (m 1 0 2) < 12) : MW (B + 0) (up3 m0 1 0 2 (m0 1 0 2 + 1)) (x_X7_adds m p1 p2 p3 p4 p5) := by
  rw [x_X7_adds_eq]
  unfold y_X7_adds
  exact MW.mono (mw_addc hW hc (MW.up (MW.up (MW.up (MW.up (MW.up (MW.up (MW.up (MW.up (MW.up (MW.up hW (by unfold mok; omega)) (by unfold mok; omega)) (by unfold mok; omega)) (by unfold mok; omega)) (by unfold mok; omega)) (by unfold mok; omega)) (by unfold mok; omega)) (by unfold mok; omega)) (by unfold mok; omega)) (by unfold mok; omega))) (by omega)
