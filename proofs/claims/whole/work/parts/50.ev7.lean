noncomputable def bd_X7_minute_18 (j : Nat) (m : Mem) : Mem := (if (x_X7_planeOf m (nI j)) = (-1) then m else (up3 (up3 m 1 0 (8 + 2 * j + 1) ((m 1 0 (8 + 2 * j + 1)) + 1)) 1 0 (35 + 10 * (ix (x_X7_planeOf m (nI j))) + 8) (((up3 m 1 0 (8 + 2 * j + 1) ((m 1 0 (8 + 2 * j + 1)) + 1)) 1 0 (35 + 10 * (ix (x_X7_planeOf m (nI j))) + 8)) + 1)))
noncomputable def ly_X7_minute_18 (N : Nat) (m : Mem) : Mem := itr (fun jz s => bd_X7_minute_18 jz s) N 0 m
theorem le_X7_minute_18 : ∃ f, f = ly_X7_minute_18 := ⟨ly_X7_minute_18, rfl⟩
noncomputable def lf_X7_minute_18 := Classical.choose le_X7_minute_18
theorem lf_X7_minute_18_eq : lf_X7_minute_18 = ly_X7_minute_18 := Classical.choose_spec le_X7_minute_18
theorem fb_X7_minute_18 {B : Nat} {m0 : Mem} (hB : B + 0 < 2147483648) {j : Nat} {m : Mem} (hjN : j < 6) (hW : MW (B + 0 * j) m0 m) : (MW (B + 0 * (j + 1)) m0 (bd_X7_minute_18 j m)) := by
  unfold bd_X7_minute_18
  by_cases h36 : (x_X7_planeOf m (nI j)) = (-1)
  · rw [if_pos h36]
    exact (MW.mono hW (by omega))
  · rw [if_neg h36]
    have b39 : ix (x_X7_planeOf m (nI j)) < 12 := VX.lt (vx_X7_planeOf hW.1) h36
    exact (MW.mono (MW.up (MW.up hW (by unfold mok; omega)) (by unfold mok; omega)) (by omega))
theorem fl_X7_minute_18 {B : Nat} {m0 : Mem} {N : Nat} (hB : B + 0 < 2147483648) {m : Mem} (hNc : N ≤ 6) (hW : MW (B + 0 * 0) m0 m) : (MW (B + 0 * N) m0 (lf_X7_minute_18 N m)) := by
  rw [lf_X7_minute_18_eq]
  unfold ly_X7_minute_18
  exact itr_inv (n := N) (s := m) (P := fun jz s => (MW (B + 0 * jz) m0 s)) (fun jz s => bd_X7_minute_18 jz s) (fun jz s hj hs => fb_X7_minute_18 (B := B) (m0 := m0) hB (j := jz) (m := s) (by omega) hs) hW
theorem lp_X7_minute_18 {d n c s b : Nat} {M : JM} {o : JO} {hf : JH} {B : Nat} {m0 : Mem} {N : Nat} (hd : 6 ≤ d) (hB : B + 0 < 2147483648) (hNc : N ≤ 6) : ∀ (k j : Nat) (m : Mem), j + k = N → m 1 0 0 = nI N → (MW (B + 0 * j) m0 m) → JV (Ev mtab mcode d) jcX7_minute (74, [(0, .ref b)], []) (n, c, s, mm b (itr (fun jz s => bd_X7_minute_18 jz s) k j m) M) o hf → JV (Ev mtab mcode d) jcX7_minute (18, [(0, .ref b), (1, .int (nI j))], []) (n, c, s, mm b m M) o hf := by
  intro k
  induction k with
  | zero =>
    intro j m hj hN hW hc
    refine JV.ild (p2 := 19) rfl rfl rfl ?_
    refine JV.ald (p2 := 20) rfl rfl rfl ?_
    refine JV.getf (p2 := 23) rfl mm_M rfl rfl ?_
    refine JV.stk (len := 1) (sem := (s_push (.int 0))) (p2 := 24) rfl rfl rfl ?_
    refine JV.iald (p2 := 25) (j := 0) rfl mm_1 rfl (by omega) (by decide) rfl ?_
    refine JV.brT rfl rfl (by rw [hN]; exact nI_le (a := N) (b := j) (by omega) (by omega)) ?_
    exact JV.keep [0] rfl hc
  | succ k ih =>
    intro j m hj hN hW hc
    obtain ⟨s1, hx⟩ : ∃ s1, bd_X7_minute_18 j m = s1 := ⟨_, rfl⟩
    have hc2 : JV (Ev mtab mcode d) jcX7_minute (74, [(0, .ref b)], []) (n, c, s, mm b (itr (fun jz s => bd_X7_minute_18 jz s) k (j + 1) s1) M) o hf := by
      subst hx
      exact hc
    clear hc
    have iv := fb_X7_minute_18 (B := B) (m0 := m0) hB (j := j) (m := m) (by omega) hW
    rw [hx] at iv
    unfold bd_X7_minute_18 at hx
    refine JV.ild (p2 := 19) rfl rfl rfl ?_
    refine JV.ald (p2 := 20) rfl rfl rfl ?_
    refine JV.getf (p2 := 23) rfl mm_M rfl rfl ?_
    refine JV.stk (len := 1) (sem := (s_push (.int 0))) (p2 := 24) rfl rfl rfl ?_
    refine JV.iald (p2 := 25) (j := 0) rfl mm_1 rfl (by omega) (by decide) rfl ?_
    refine JV.brF (p2 := 28) rfl rfl rfl (by rw [hN]; exact nI_ge (a := j) (b := N) (by omega) (by omega)) ?_
    refine JV.ald (p2 := 29) rfl rfl rfl ?_
    refine JV.ild (p2 := 30) rfl rfl rfl ?_
    refine JV.invI (p2 := 33) rfl rfl rfl mm_M (Nat.le_of_ble_eq_true rfl) rfl (ev_X7_planeOf (by omega) hW.1 rfl) ?_
    refine JV.ist (p2 := 34) rfl rfl rfl ?_
    refine JV.ild (p2 := 35) rfl rfl rfl ?_
    refine JV.stk (len := 1) (sem := (s_push (.int (-1)))) (p2 := 36) rfl rfl rfl ?_
    by_cases h36 : (x_X7_planeOf m (nI j)) = (-1)
    · rw [if_pos h36] at hx
      refine JV.brT rfl rfl h36 ?_
      refine JV.iinc (p2 := 71) rfl rfl (nI_1 _) rfl rfl ?_
      refine JV.goto rfl ?_
      refine JV.keep [0, 1] rfl ?_
      subst hx
      exact ih (j + 1) _ (by omega) ((MW.same iv hW (by decide)).trans hN) iv hc2
    · rw [if_neg h36] at hx
      refine JV.brF (p2 := 39) rfl rfl rfl h36 ?_
      have b39 : ix (x_X7_planeOf m (nI j)) < 12 := VX.lt (vx_X7_planeOf hW.1) h36
      refine JV.ald (p2 := 40) rfl rfl rfl ?_
      refine JV.getf (p2 := 43) rfl mm_M rfl rfl ?_
      refine JV.ild (p2 := 44) rfl rfl rfl ?_
      refine JV.stk (len := 1) (sem := (s_push (.int 1))) (p2 := 45) rfl rfl rfl ?_
      refine JV.insI (p2 := 48) rfl (Nat.le_of_ble_eq_true rfl) rfl rfl (Nat.le_of_ble_eq_true rfl) rfl (ev_X7_standAt (by omega) rfl) rfl ?_
      refine JV.stk (len := 1) (sem := s_dup2) (p2 := 49) rfl rfl rfl ?_
      refine JV.iald (p2 := 50) (j := (8 + 2 * j + 1)) rfl mm_1 (sa_at rfl rfl) (by omega) (by decide) rfl ?_
      refine JV.stk (len := 1) (sem := (s_push (.int 1))) (p2 := 51) rfl rfl rfl ?_
      refine JV.stk (len := 1) (sem := s_iadd) (p2 := 52) rfl rfl rfl ?_
      refine JV.iast (p2 := 53) (j := (8 + 2 * j + 1)) rfl mm_1 (sa_at rfl rfl) (by omega) (by decide) (mm_w1 (k := (8 + 2 * j + 1)) rfl) rfl ?_
      refine JV.ald (p2 := 54) rfl rfl rfl ?_
      refine JV.getf (p2 := 57) rfl mm_M rfl rfl ?_
      refine JV.ild (p2 := 58) rfl rfl rfl ?_
      refine JV.stk (len := 2) (sem := (s_push (.int 8))) (p2 := 60) rfl rfl rfl ?_
      refine JV.insI (p2 := 63) rfl (Nat.le_of_ble_eq_true rfl) rfl rfl (Nat.le_of_ble_eq_true rfl) rfl (ev_X7_planeAt (by omega) rfl) rfl ?_
      refine JV.stk (len := 1) (sem := s_dup2) (p2 := 64) rfl rfl rfl ?_
      refine JV.iald (p2 := 65) (j := (35 + 10 * (ix (x_X7_planeOf m (nI j))) + 8)) rfl mm_1 (pa_at (VX.eq (vx_X7_planeOf hW.1) h36) rfl) (by omega) (by decide) rfl ?_
      refine JV.stk (len := 1) (sem := (s_push (.int 1))) (p2 := 66) rfl rfl rfl ?_
      refine JV.stk (len := 1) (sem := s_iadd) (p2 := 67) rfl rfl rfl ?_
      refine JV.iast (p2 := 68) (j := (35 + 10 * (ix (x_X7_planeOf m (nI j))) + 8)) rfl mm_1 (pa_at (VX.eq (vx_X7_planeOf hW.1) h36) rfl) (by omega) (by decide) (mm_w1 (k := (35 + 10 * (ix (x_X7_planeOf m (nI j))) + 8)) rfl) rfl ?_
      refine JV.iinc (p2 := 71) rfl rfl (nI_1 _) rfl rfl ?_
      refine JV.goto rfl ?_
      refine JV.keep [0, 1] rfl ?_
      subst hx
      exact ih (j + 1) _ (by omega) ((MW.same iv hW (by decide)).trans hN) iv hc2
theorem lq_X7_minute_18 {d n c s b : Nat} {M : JM} {o : JO} {hf : JH} {B : Nat} {m0 : Mem} {N : Nat} {m : Mem} (hd : 6 ≤ d) (hB : B + 0 < 2147483648) (hNc : N ≤ 6) (hN : m 1 0 0 = nI N) (hW : MW (B + 0 * 0) m0 m) (hc : JV (Ev mtab mcode d) jcX7_minute (74, [(0, .ref b)], []) (n, c, s, mm b (lf_X7_minute_18 N m) M) o hf) : JV (Ev mtab mcode d) jcX7_minute (18, [(0, .ref b), (1, .int 0)], []) (n, c, s, mm b m M) o hf := by
  rw [lf_X7_minute_18_eq] at hc
  unfold ly_X7_minute_18 at hc
  exact lp_X7_minute_18 (B := B) (m0 := m0) hd hB hNc N 0 m (by omega) hN hW hc
noncomputable def y_X7_minute (m : Mem) : Mem := (up3 (lf_X7_minute_18 (ix (m 1 0 0)) (x_X7_towing (x_X7_pushbacks (x_X7_arrivals (x_X7_tugs m))))) 1 0 3 (((lf_X7_minute_18 (ix (m 1 0 0)) (x_X7_towing (x_X7_pushbacks (x_X7_arrivals (x_X7_tugs m))))) 1 0 3) + 1))
theorem xe_X7_minute : ∃ f, f = y_X7_minute := ⟨y_X7_minute, rfl⟩
noncomputable def x_X7_minute := Classical.choose xe_X7_minute
theorem x_X7_minute_eq : x_X7_minute = y_X7_minute := Classical.choose_spec xe_X7_minute
theorem ev_X7_minute {d n c s b : Nat} {m : Mem} {M : JM} {B : Nat} {m0 : Mem} {res : Mem} (hd : 7 ≤ d) (hW : MW B m0 m) (hB : B + 0 < 2147483648) (hx : x_X7_minute m = res) : Ev mtab mcode d 127 [.ref b] (n, c, s, mm b m M) (.inl none) (n, c, s, mm b res M) := by
  obtain ⟨d, rfl⟩ : ∃ e, d = e + 1 := ⟨d - 1, by omega⟩
  rw [x_X7_minute_eq] at hx
  unfold y_X7_minute at hx
  refine jv_mk (m := mX7_minute) (cd := jcX7_minute) rfl rfl (Nat.le_of_ble_eq_true rfl) trivial ?_
  refine JV.ald (p2 := 1) rfl rfl rfl ?_
  refine JV.inv0 (p2 := 4) rfl rfl rfl mm_M (Nat.le_of_ble_eq_true rfl) rfl (ev_X7_tugs (by omega) hW (by omega) rfl) ?_
  refine JV.ald (p2 := 5) rfl rfl rfl ?_
  refine JV.inv0 (p2 := 8) rfl rfl rfl mm_M (Nat.le_of_ble_eq_true rfl) rfl (ev_X7_arrivals (by omega) (fw_X7_tugs hW (by omega)) (by omega) rfl) ?_
  refine JV.ald (p2 := 9) rfl rfl rfl ?_
  refine JV.inv0 (p2 := 12) rfl rfl rfl mm_M (Nat.le_of_ble_eq_true rfl) rfl (ev_X7_pushbacks (by omega) (fw_X7_arrivals (fw_X7_tugs hW (by omega)) (by omega)) (by omega) rfl) ?_
  refine JV.ald (p2 := 13) rfl rfl rfl ?_
  refine JV.inv0 (p2 := 16) rfl rfl rfl mm_M (Nat.le_of_ble_eq_true rfl) rfl (ev_X7_towing (by omega) (fw_X7_pushbacks (fw_X7_arrivals (fw_X7_tugs hW (by omega)) (by omega)) (by omega)) (by omega) rfl) ?_
  refine JV.stk (len := 1) (sem := (s_push (.int 0))) (p2 := 17) rfl rfl rfl ?_
  refine JV.ist (p2 := 18) rfl rfl rfl ?_
  refine lq_X7_minute_18 (m := (x_X7_towing (x_X7_pushbacks (x_X7_arrivals (x_X7_tugs m))))) (N := (ix (m 1 0 0))) (B := B) (m0 := m0) (by omega) (by omega) hW.1.ns.2 (MW.cN (fw_X7_towing (fw_X7_pushbacks (fw_X7_arrivals (fw_X7_tugs hW (by omega)) (by omega)) (by omega)) (by omega)) hW (by decide)) (MW.mono (fw_X7_towing (fw_X7_pushbacks (fw_X7_arrivals (fw_X7_tugs hW (by omega)) (by omega)) (by omega)) (by omega)) (by omega)) ?_
  refine JV.ald (p2 := 75) rfl rfl rfl ?_
  refine JV.getf (p2 := 78) rfl mm_M rfl rfl ?_
  refine JV.stk (len := 1) (sem := (s_push (.int 3))) (p2 := 79) rfl rfl rfl ?_
  refine JV.stk (len := 1) (sem := s_dup2) (p2 := 80) rfl rfl rfl ?_
  refine JV.iald (p2 := 81) (j := 3) rfl mm_1 rfl (by omega) (by decide) rfl ?_
  refine JV.stk (len := 1) (sem := (s_push (.int 1))) (p2 := 82) rfl rfl rfl ?_
  refine JV.stk (len := 1) (sem := s_iadd) (p2 := 83) rfl rfl rfl ?_
  refine JV.iast (p2 := 84) (j := 3) rfl mm_1 rfl (by omega) (by decide) (mm_w1 (k := 3) rfl) rfl ?_
  subst hx
  exact JV.ret rfl (fun _ => rfl) rfl rfl
theorem fw_X7_minute {m : Mem} {B : Nat} {m0 : Mem} (hW : MW B m0 m) (hB : B + 0 < 2147483648) : MW (B + 0) m0 (x_X7_minute m) := by
  rw [x_X7_minute_eq]
  unfold y_X7_minute
  exact MW.mono (MW.up (MW.mono (fl_X7_minute_18 (m := (x_X7_towing (x_X7_pushbacks (x_X7_arrivals (x_X7_tugs m))))) (N := (ix (m 1 0 0))) (B := B) (m0 := m0) (by omega) hW.1.ns.2 (MW.mono (fw_X7_towing (fw_X7_pushbacks (fw_X7_arrivals (fw_X7_tugs hW (by omega)) (by omega)) (by omega)) (by omega)) (by omega))) (B' := B + 0) (by have hc9 := hW.1.ns.2; omega)) (by unfold mok; omega)) (by omega)
noncomputable def bd_X7_toAll_2 (j : Nat) (m : Mem) (c1 : Int32) : Mem × Int32 := (if c1 < 3000 then (if (x_X7_inState m 5) < (m 1 0 2) then ((x_X7_minute m), (c1 + 1)) else (m, c1)) else (m, c1))
noncomputable def ly_X7_toAll_2 (N : Nat) (m : Mem) (c1 : Int32) : Mem × Int32 := itr (fun jz s => bd_X7_toAll_2 jz s.1 s.2) N 0 (m, c1)
theorem le_X7_toAll_2 : ∃ f, f = ly_X7_toAll_2 := ⟨ly_X7_toAll_2, rfl⟩
noncomputable def lf_X7_toAll_2 := Classical.choose le_X7_toAll_2
theorem lf_X7_toAll_2_eq : lf_X7_toAll_2 = ly_X7_toAll_2 := Classical.choose_spec le_X7_toAll_2
theorem fb_X7_toAll_2 {B : Nat} {m0 : Mem} (hB : B + 0 < 2147483648) {j : Nat} {m : Mem} {c1 : Int32} (hjN : j < 3000) (hW : MW (B + 0 * j) m0 m) (hn : c1 = nI j ∨ ¬ (c1 < 3000 ∧ x_X7_inState m 5 < m 1 0 2)) : (MW (B + 0 * (j + 1)) m0 (bd_X7_toAll_2 j m c1).1) ∧ ((bd_X7_toAll_2 j m c1).2 = nI (j + 1) ∨ ¬ ((bd_X7_toAll_2 j m c1).2 < 3000 ∧ x_X7_inState (bd_X7_toAll_2 j m c1).1 5 < (bd_X7_toAll_2 j m c1).1 1 0 2)) := by
  unfold bd_X7_toAll_2
  by_cases h6 : c1 < 3000
  · rw [if_pos h6]
    by_cases h20 : (x_X7_inState m 5) < (m 1 0 2)
    · rw [if_pos h20]
      try dsimp only
      exact ⟨(MW.mono (fw_X7_minute hW (by omega)) (by omega)), (by first | exact Or.inr (fun q => h6 q.1) | exact Or.inr (fun q => h20 q.2) | exact hn.elim (fun e => Or.inl (by rw [e, nI_1])) (fun e => absurd ⟨h6, h20⟩ e))⟩
    · rw [if_neg h20]
      try dsimp only
      exact ⟨(MW.mono hW (by omega)), (by first | exact Or.inr (fun q => h6 q.1) | exact Or.inr (fun q => h20 q.2) | exact hn.elim (fun e => Or.inl (by rw [e, nI_1])) (fun e => absurd ⟨h6, h20⟩ e))⟩
  · rw [if_neg h6]
    try dsimp only
    exact ⟨(MW.mono hW (by omega)), (by first | exact Or.inr (fun q => h6 q.1) | exact Or.inr (fun q => h20 q.2) | exact hn.elim (fun e => Or.inl (by rw [e, nI_1])) (fun e => absurd ⟨h6, h20⟩ e))⟩
theorem fl_X7_toAll_2 {B : Nat} {m0 : Mem} (hB : B + 0 < 2147483648) {m : Mem} {c1 : Int32} {N : Nat} (hNl : N = 3000) (hW : MW (B + 0 * 0) m0 m) (hn : c1 = nI 0 ∨ ¬ (c1 < 3000 ∧ x_X7_inState m 5 < m 1 0 2)) : (MW (B + 0 * N) m0 (lf_X7_toAll_2 N m c1).1) ∧ ((lf_X7_toAll_2 N m c1).2 = nI N ∨ ¬ ((lf_X7_toAll_2 N m c1).2 < 3000 ∧ x_X7_inState (lf_X7_toAll_2 N m c1).1 5 < (lf_X7_toAll_2 N m c1).1 1 0 2)) := by
  rw [lf_X7_toAll_2_eq]
  unfold ly_X7_toAll_2
  exact itr_inv (n := N) (s := (m, c1)) (P := fun jz s => (MW (B + 0 * jz) m0 s.1) ∧ (s.2 = nI jz ∨ ¬ (s.2 < 3000 ∧ x_X7_inState s.1 5 < s.1 1 0 2))) (fun jz s => bd_X7_toAll_2 jz s.1 s.2) (fun jz s hj hs => fb_X7_toAll_2 (B := B) (m0 := m0) hB (j := jz) (m := s.1) (c1 := s.2) (by omega) hs.1 hs.2) ⟨hW, hn⟩
theorem lp_X7_toAll_2 {d n c s b : Nat} {M : JM} {o : JO} {hf : JH} {B : Nat} {m0 : Mem} (hd : 7 ≤ d) (hB : B + 0 < 2147483648) : ∀ (k j : Nat) (m : Mem) (c1 : Int32), j + k = 3000 → (MW (B + 0 * j) m0 m) → (c1 = nI j ∨ ¬ (c1 < 3000 ∧ x_X7_inState m 5 < m 1 0 2)) → JV (Ev mtab mcode d) jcX7_toAll (33, [(0, .ref b), (1, .int ((itr (fun jz s => bd_X7_toAll_2 jz s.1 s.2) k j (m, c1)).2))], []) (n, c, s, mm b ((itr (fun jz s => bd_X7_toAll_2 jz s.1 s.2) k j (m, c1)).1) M) o hf → JV (Ev mtab mcode d) jcX7_toAll (2, [(0, .ref b), (1, .int c1)], []) (n, c, s, mm b m M) o hf := by
  intro k
  induction k with
  | zero =>
    intro j m c1 hj hW hn hc
    have hjN : j = 3000 := by omega
    obtain ⟨s1, hx⟩ : ∃ s1, bd_X7_toAll_2 j m c1 = s1 := ⟨_, rfl⟩
    unfold bd_X7_toAll_2 at hx
    refine JV.ild (p2 := 3) rfl rfl rfl ?_
    refine JV.stk (len := 3) (sem := (s_push (.int 3000))) (p2 := 6) rfl rfl rfl ?_
    by_cases h6 : c1 < 3000
    · rw [if_pos h6] at hx
      refine JV.brF (p2 := 9) rfl rfl rfl (Int32.not_le.mpr h6) ?_
      refine JV.ald (p2 := 10) rfl rfl rfl ?_
      refine JV.stk (len := 1) (sem := (s_push (.int 5))) (p2 := 11) rfl rfl rfl ?_
      refine JV.invI (p2 := 14) rfl rfl rfl mm_M (Nat.le_of_ble_eq_true rfl) rfl (ev_X7_inState (by omega) hW.1 rfl) ?_
      refine JV.ald (p2 := 15) rfl rfl rfl ?_
      refine JV.getf (p2 := 18) rfl mm_M rfl rfl ?_
      refine JV.stk (len := 1) (sem := (s_push (.int 2))) (p2 := 19) rfl rfl rfl ?_
      refine JV.iald (p2 := 20) (j := 2) rfl mm_1 rfl (by omega) (by decide) rfl ?_
      by_cases h20 : (x_X7_inState m 5) < (m 1 0 2)
      · rw [if_pos h20] at hx
        refine JV.brF (p2 := 23) rfl rfl rfl (Int32.not_le.mpr h20) ?_
        rcases hn with e | e
        · rw [e, hjN] at h6
          exact absurd h6 (by decide)
        · exact absurd ⟨h6, h20⟩ e
      · rw [if_neg h20] at hx
        refine JV.brT rfl rfl (Int32.not_lt.mp h20) ?_
        exact JV.keep [0, 1] rfl hc
    · rw [if_neg h6] at hx
      refine JV.brT rfl rfl (Int32.not_lt.mp h6) ?_
      exact JV.keep [0, 1] rfl hc
  | succ k ih =>
    intro j m c1 hj hW hn hc
    obtain ⟨s1, hx⟩ : ∃ s1, bd_X7_toAll_2 j m c1 = s1 := ⟨_, rfl⟩
    have hc2 : JV (Ev mtab mcode d) jcX7_toAll (33, [(0, .ref b), (1, .int ((itr (fun jz s => bd_X7_toAll_2 jz s.1 s.2) k (j + 1) s1).2))], []) (n, c, s, mm b ((itr (fun jz s => bd_X7_toAll_2 jz s.1 s.2) k (j + 1) s1).1) M) o hf := by
      subst hx
      exact hc
    clear hc
    have iv := fb_X7_toAll_2 (B := B) (m0 := m0) hB (j := j) (m := m) (c1 := c1) (by omega) hW hn
    rw [hx] at iv
    unfold bd_X7_toAll_2 at hx
    refine JV.ild (p2 := 3) rfl rfl rfl ?_
    refine JV.stk (len := 3) (sem := (s_push (.int 3000))) (p2 := 6) rfl rfl rfl ?_
    by_cases h6 : c1 < 3000
    · rw [if_pos h6] at hx
      refine JV.brF (p2 := 9) rfl rfl rfl (Int32.not_le.mpr h6) ?_
      refine JV.ald (p2 := 10) rfl rfl rfl ?_
      refine JV.stk (len := 1) (sem := (s_push (.int 5))) (p2 := 11) rfl rfl rfl ?_
      refine JV.invI (p2 := 14) rfl rfl rfl mm_M (Nat.le_of_ble_eq_true rfl) rfl (ev_X7_inState (by omega) hW.1 rfl) ?_
      refine JV.ald (p2 := 15) rfl rfl rfl ?_
      refine JV.getf (p2 := 18) rfl mm_M rfl rfl ?_
      refine JV.stk (len := 1) (sem := (s_push (.int 2))) (p2 := 19) rfl rfl rfl ?_
      refine JV.iald (p2 := 20) (j := 2) rfl mm_1 rfl (by omega) (by decide) rfl ?_
      by_cases h20 : (x_X7_inState m 5) < (m 1 0 2)
      · rw [if_pos h20] at hx
        refine JV.brF (p2 := 23) rfl rfl rfl (Int32.not_le.mpr h20) ?_
        refine JV.ald (p2 := 24) rfl rfl rfl ?_
        refine JV.inv0 (p2 := 27) rfl rfl rfl mm_M (Nat.le_of_ble_eq_true rfl) rfl (ev_X7_minute (by omega) hW (by omega) rfl) ?_
        refine JV.iinc (p2 := 30) rfl rfl rfl rfl rfl ?_
        refine JV.goto rfl ?_
        subst hx
        exact ih (j + 1) _ _ (by omega) iv.1 iv.2 hc2
      · rw [if_neg h20] at hx
        refine JV.brT rfl rfl (Int32.not_lt.mp h20) ?_
        subst hx
        have fx : ∀ jz, (fun jz s => bd_X7_toAll_2 jz s.1 s.2) jz (m, c1) = (m, c1) := fun jz => by
          show bd_X7_toAll_2 jz m c1 = _
          unfold bd_X7_toAll_2
          rw [if_pos h6, if_neg h20]
        rw [itr_fix (f := (fun jz s => bd_X7_toAll_2 jz s.1 s.2)) (s := (m, c1)) fx] at hc2
        exact JV.keep [0, 1] rfl hc2
    · rw [if_neg h6] at hx
      refine JV.brT rfl rfl (Int32.not_lt.mp h6) ?_
      subst hx
      have fx : ∀ jz, (fun jz s => bd_X7_toAll_2 jz s.1 s.2) jz (m, c1) = (m, c1) := fun jz => by
        show bd_X7_toAll_2 jz m c1 = _
        unfold bd_X7_toAll_2
        rw [if_neg h6]
      rw [itr_fix (f := (fun jz s => bd_X7_toAll_2 jz s.1 s.2)) (s := (m, c1)) fx] at hc2
      exact JV.keep [0, 1] rfl hc2
theorem lq_X7_toAll_2 {d n c s b : Nat} {M : JM} {o : JO} {hf : JH} {B : Nat} {m0 : Mem} {m : Mem} {c1 : Int32} (hd : 7 ≤ d) (hB : B + 0 < 2147483648) (hW : MW (B + 0 * 0) m0 m) (hn : c1 = nI 0 ∨ ¬ (c1 < 3000 ∧ x_X7_inState m 5 < m 1 0 2)) (hc : JV (Ev mtab mcode d) jcX7_toAll (33, [(0, .ref b), (1, .int ((lf_X7_toAll_2 3000 m c1).2))], []) (n, c, s, mm b ((lf_X7_toAll_2 3000 m c1).1) M) o hf) : JV (Ev mtab mcode d) jcX7_toAll (2, [(0, .ref b), (1, .int c1)], []) (n, c, s, mm b m M) o hf := by
  rw [lf_X7_toAll_2_eq] at hc
  unfold ly_X7_toAll_2 at hc
  exact lp_X7_toAll_2 (B := B) (m0 := m0) hd hB 3000 0 m c1 (by omega) hW hn hc
noncomputable def y_X7_toAll (m : Mem) : Mem × Int32 := (if (x_X7_inState ((lf_X7_toAll_2 3000 m 0).1) 5) = (((lf_X7_toAll_2 3000 m 0).1) 1 0 2) then (((lf_X7_toAll_2 3000 m 0).1), ((lf_X7_toAll_2 3000 m 0).2)) else (((lf_X7_toAll_2 3000 m 0).1), (-1)))
theorem xe_X7_toAll : ∃ f, f = y_X7_toAll := ⟨y_X7_toAll, rfl⟩
noncomputable def x_X7_toAll := Classical.choose xe_X7_toAll
theorem x_X7_toAll_eq : x_X7_toAll = y_X7_toAll := Classical.choose_spec xe_X7_toAll
theorem ev_X7_toAll {d n c s b : Nat} {m : Mem} {M : JM} {B : Nat} {m0 : Mem} {res : Mem × Int32} (hd : 8 ≤ d) (hW : MW B m0 m) (hB : B + 0 < 2147483648) (hx : x_X7_toAll m = res) : Ev mtab mcode d 140 [.ref b] (n, c, s, mm b m M) (.inl (some (.int res.2))) (n, c, s, mm b res.1 M) := by
  obtain ⟨d, rfl⟩ : ∃ e, d = e + 1 := ⟨d - 1, by omega⟩
  rw [x_X7_toAll_eq] at hx
  unfold y_X7_toAll at hx
  refine jv_mk (m := mX7_toAll) (cd := jcX7_toAll) rfl rfl (Nat.le_of_ble_eq_true rfl) trivial ?_
  refine JV.stk (len := 1) (sem := (s_push (.int 0))) (p2 := 1) rfl rfl rfl ?_
  refine JV.ist (p2 := 2) rfl rfl rfl ?_
  refine lq_X7_toAll_2 (m := m) (c1 := 0) (B := B) (m0 := m0) (by omega) (by omega) (MW.mono hW (by omega)) (Or.inl rfl) ?_
  refine JV.ald (p2 := 34) rfl rfl rfl ?_
  refine JV.stk (len := 1) (sem := (s_push (.int 5))) (p2 := 35) rfl rfl rfl ?_
  refine JV.invI (p2 := 38) rfl rfl rfl mm_M (Nat.le_of_ble_eq_true rfl) rfl (ev_X7_inState (by omega) (MW.mono (fl_X7_toAll_2 (m := m) (c1 := 0) (B := B) (m0 := m0) (by omega) (N := 3000) rfl (MW.mono hW (by omega)) (Or.inl rfl)).1 (B' := B + 0) (by omega)).1 rfl) ?_
  refine JV.ald (p2 := 39) rfl rfl rfl ?_
  refine JV.getf (p2 := 42) rfl mm_M rfl rfl ?_
  refine JV.stk (len := 1) (sem := (s_push (.int 2))) (p2 := 43) rfl rfl rfl ?_
  refine JV.iald (p2 := 44) (j := 2) rfl mm_1 rfl (by omega) (by decide) rfl ?_
  by_cases h44 : (x_X7_inState ((lf_X7_toAll_2 3000 m 0).1) 5) = (((lf_X7_toAll_2 3000 m 0).1) 1 0 2)
  · rw [if_pos h44] at hx
    refine JV.brF (p2 := 47) rfl rfl rfl (fun e => e h44) ?_
    refine JV.ild (p2 := 48) rfl rfl rfl ?_
    refine JV.goto rfl ?_
    subst hx
    exact JV.ret rfl (fun _ => rfl) rfl rfl
  · rw [if_neg h44] at hx
    refine JV.brT rfl rfl h44 ?_
    refine JV.stk (len := 1) (sem := (s_push (.int (-1)))) (p2 := 52) rfl rfl rfl ?_
    subst hx
    exact JV.ret rfl (fun _ => rfl) rfl rfl
theorem fw_X7_toAll {m : Mem} {B : Nat} {m0 : Mem} (hW : MW B m0 m) (hB : B + 0 < 2147483648) : MW (B + 0) m0 (x_X7_toAll m).1 := by
  rw [x_X7_toAll_eq]
  unfold y_X7_toAll
  by_cases h44 : (x_X7_inState ((lf_X7_toAll_2 3000 m 0).1) 5) = (((lf_X7_toAll_2 3000 m 0).1) 1 0 2)
  · rw [if_pos h44]
    try dsimp only
    exact MW.mono (MW.mono (fl_X7_toAll_2 (m := m) (c1 := 0) (B := B) (m0 := m0) (by omega) (N := 3000) rfl (MW.mono hW (by omega)) (Or.inl rfl)).1 (B' := B + 0) (by omega)) (by omega)
  · rw [if_neg h44]
    try dsimp only
    exact MW.mono (MW.mono (fl_X7_toAll_2 (m := m) (c1 := 0) (B := B) (m0 := m0) (by omega) (N := 3000) rfl (MW.mono hW (by omega)) (Or.inl rfl)).1 (B' := B + 0) (by omega)) (by omega)
