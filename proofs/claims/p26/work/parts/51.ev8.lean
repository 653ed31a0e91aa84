theorem ix_ltL {k n : Nat} {x : Int32} (h : VN k x) (g : x < nI n) (hk : k < 2 ^ 31) (hn : n < 2 ^ 31) : ix x < n := by
  rw [h.1] at g
  have := h.2
  exact (nI_ltI (by omega) hn).mp g
theorem fw_cnt {B : Nat} {m0 m : Mem} {p1 p2 : Int32} (h : FW B m0 m) (h1 : VN 6 p1) (h2 : VN 3 p2) : FW B (up3 (up3 m 0 0 0 p1) 0 0 1 p2) (up3 (up3 m 0 0 0 p1) 0 0 1 p2) := by
  refine ⟨⟨?_, ?_, ?_, fun j hj => ?_, fun j hj => ?_, fun j hj => ?_⟩, ?_, fun q hq => rfl⟩
  · rw [up3_ne (by simp), up3_self]; exact h1
  · rw [up3_self]; exact h2
  · rw [up3_ne (by simp), up3_ne (by simp)]; exact h.1.na
  · rw [up3_ne (by simp), up3_ne (by simp)]; exact h.1.st hj
  · rw [up3_ne (by simp), up3_ne (by simp)]; exact h.1.tu hj
  · rw [up3_ne (by simp), up3_ne (by simp)]; exact h.1.ac hj
  · rw [up3_ne (by simp), up3_ne (by simp)]; exact h.2.1
noncomputable def bd_X1_restart_2 (j : Nat) (m : Mem) : Mem := (x_X3_restart m j)
noncomputable def ly_X1_restart_2 (N : Nat) (m : Mem) : Mem := itr (fun jz s => bd_X1_restart_2 jz s) N 0 m
theorem le_X1_restart_2 : ∃ f, f = ly_X1_restart_2 := ⟨ly_X1_restart_2, rfl⟩
noncomputable def lf_X1_restart_2 := Classical.choose le_X1_restart_2
theorem lf_X1_restart_2_eq : lf_X1_restart_2 = ly_X1_restart_2 := Classical.choose_spec le_X1_restart_2
theorem fb_X1_restart_2 {B : Nat} {m0 : Mem} (hB : B + 0 < 2147483648) {j : Nat} {m : Mem} (hjN : j < 6) (hW : FW (B + 0 * j) m0 m) : (FW (B + 0 * (j + 1)) m0 (bd_X1_restart_2 j m)) := by
  unfold bd_X1_restart_2
  exact (FW.mono (fw_X3_restart hW) (by omega))
theorem fl_X1_restart_2 {B : Nat} {m0 : Mem} {N : Nat} (hB : B + 0 < 2147483648) {m : Mem} (hNc : N ≤ 6) (hW : FW (B + 0 * 0) m0 m) : (FW (B + 0 * N) m0 (lf_X1_restart_2 N m)) := by
  rw [lf_X1_restart_2_eq]
  unfold ly_X1_restart_2
  exact itr_inv (n := N) (s := m) (P := fun jz s => (FW (B + 0 * jz) m0 s)) (fun jz s => bd_X1_restart_2 jz s) (fun jz s hj hs => fb_X1_restart_2 (B := B) (m0 := m0) hB (j := jz) (m := s) (by omega) hs) hW
theorem lp_X1_restart_2 {d n c s b : Nat} {M : JM} {o : JO} {hf : JH} {B : Nat} {m0 : Mem} {N : Nat} (hd : 1 ≤ d) (hB : B + 0 < 2147483648) (hNc : N ≤ 6) : ∀ (k j : Nat) (m : Mem), j + k = N → m 0 0 0 = nI N → (FW (B + 0 * j) m0 m) → JV (Ev mtab mcode d) jcX1_restart (25, [(0, .ref b)], []) (n, c, s, fm b (itr (fun jz s => bd_X1_restart_2 jz s) k j m) M) o hf → JV (Ev mtab mcode d) jcX1_restart (2, [(0, .ref b), (1, .int (nI j))], []) (n, c, s, fm b m M) o hf := by
  intro k
  induction k with
  | zero =>
    intro j m hj hN hW hc
    refine JV.ild (p2 := 3) rfl rfl rfl ?_
    refine JV.ald (p2 := 4) rfl rfl rfl ?_
    refine JV.getF0 (p2 := 7) rfl rfl ?_
    refine JV.brT rfl rfl (by rw [hN]; exact nI_le (a := N) (b := j) (by omega) (by omega)) ?_
    exact JV.keep [0] rfl hc
  | succ k ih =>
    intro j m hj hN hW hc
    obtain ⟨s1, hx⟩ : ∃ s1, bd_X1_restart_2 j m = s1 := ⟨_, rfl⟩
    have hc2 : JV (Ev mtab mcode d) jcX1_restart (25, [(0, .ref b)], []) (n, c, s, fm b (itr (fun jz s => bd_X1_restart_2 jz s) k (j + 1) s1) M) o hf := by
      subst hx
      exact hc
    clear hc
    have iv := fb_X1_restart_2 (B := B) (m0 := m0) hB (j := j) (m := m) (by omega) hW
    rw [hx] at iv
    unfold bd_X1_restart_2 at hx
    refine JV.ild (p2 := 3) rfl rfl rfl ?_
    refine JV.ald (p2 := 4) rfl rfl rfl ?_
    refine JV.getF0 (p2 := 7) rfl rfl ?_
    refine JV.brF (p2 := 10) rfl rfl rfl (by rw [hN]; exact nI_ge (a := j) (b := N) (by omega) (by omega)) ?_
    refine JV.ald (p2 := 11) rfl rfl rfl ?_
    refine JV.getFr0 (p2 := 14) rfl rfl ?_
    refine JV.ild (p2 := 15) rfl rfl rfl ?_
    refine JV.elS (p2 := 16) rfl rfl (by omega) rfl ?_
    refine JV.inv0 (p2 := 19) rfl rfl rfl (fm_S (by omega)) (Nat.le_of_ble_eq_true rfl) rfl (ev_X3_restart (by omega) (by omega) rfl) ?_
    refine JV.iinc (p2 := 22) rfl rfl (nI_1 _) rfl rfl ?_
    refine JV.goto rfl ?_
    subst hx
    exact ih (j + 1) _ (by omega) ((FW.same iv hW (by decide)).trans hN) iv hc2
theorem lq_X1_restart_2 {d n c s b : Nat} {M : JM} {o : JO} {hf : JH} {B : Nat} {m0 : Mem} {N : Nat} {m : Mem} (hd : 1 ≤ d) (hB : B + 0 < 2147483648) (hNc : N ≤ 6) (hN : m 0 0 0 = nI N) (hW : FW (B + 0 * 0) m0 m) (hc : JV (Ev mtab mcode d) jcX1_restart (25, [(0, .ref b)], []) (n, c, s, fm b (lf_X1_restart_2 N m) M) o hf) : JV (Ev mtab mcode d) jcX1_restart (2, [(0, .ref b), (1, .int 0)], []) (n, c, s, fm b m M) o hf := by
  rw [lf_X1_restart_2_eq] at hc
  unfold ly_X1_restart_2 at hc
  exact lp_X1_restart_2 (B := B) (m0 := m0) hd hB hNc N 0 m (by omega) hN hW hc
noncomputable def bd_X1_restart_27 (j : Nat) (m : Mem) : Mem := (x_X5_restart m j)
noncomputable def ly_X1_restart_27 (N : Nat) (m : Mem) : Mem := itr (fun jz s => bd_X1_restart_27 jz s) N 0 m
theorem le_X1_restart_27 : ∃ f, f = ly_X1_restart_27 := ⟨ly_X1_restart_27, rfl⟩
noncomputable def lf_X1_restart_27 := Classical.choose le_X1_restart_27
theorem lf_X1_restart_27_eq : lf_X1_restart_27 = ly_X1_restart_27 := Classical.choose_spec le_X1_restart_27
theorem fb_X1_restart_27 {B : Nat} {m0 : Mem} (hB : B + 0 < 2147483648) {j : Nat} {m : Mem} (hjN : j < 3) (hW : FW (B + 0 * j) m0 m) : (FW (B + 0 * (j + 1)) m0 (bd_X1_restart_27 j m)) := by
  unfold bd_X1_restart_27
  exact (FW.mono (fw_X5_restart hW) (by omega))
theorem fl_X1_restart_27 {B : Nat} {m0 : Mem} {N : Nat} (hB : B + 0 < 2147483648) {m : Mem} (hNc : N ≤ 3) (hW : FW (B + 0 * 0) m0 m) : (FW (B + 0 * N) m0 (lf_X1_restart_27 N m)) := by
  rw [lf_X1_restart_27_eq]
  unfold ly_X1_restart_27
  exact itr_inv (n := N) (s := m) (P := fun jz s => (FW (B + 0 * jz) m0 s)) (fun jz s => bd_X1_restart_27 jz s) (fun jz s hj hs => fb_X1_restart_27 (B := B) (m0 := m0) hB (j := jz) (m := s) (by omega) hs) hW
theorem lp_X1_restart_27 {d n c s b : Nat} {M : JM} {o : JO} {hf : JH} {B : Nat} {m0 : Mem} {N : Nat} (hd : 1 ≤ d) (hB : B + 0 < 2147483648) (hNc : N ≤ 3) : ∀ (k j : Nat) (m : Mem), j + k = N → m 0 0 1 = nI N → (FW (B + 0 * j) m0 m) → JV (Ev mtab mcode d) jcX1_restart (50, [(0, .ref b)], []) (n, c, s, fm b (itr (fun jz s => bd_X1_restart_27 jz s) k j m) M) o hf → JV (Ev mtab mcode d) jcX1_restart (27, [(0, .ref b), (1, .int (nI j))], []) (n, c, s, fm b m M) o hf := by
  intro k
  induction k with
  | zero =>
    intro j m hj hN hW hc
    refine JV.ild (p2 := 28) rfl rfl rfl ?_
    refine JV.ald (p2 := 29) rfl rfl rfl ?_
    refine JV.getF1 (p2 := 32) rfl rfl ?_
    refine JV.brT rfl rfl (by rw [hN]; exact nI_le (a := N) (b := j) (by omega) (by omega)) ?_
    exact JV.keep [0] rfl hc
  | succ k ih =>
    intro j m hj hN hW hc
    obtain ⟨s1, hx⟩ : ∃ s1, bd_X1_restart_27 j m = s1 := ⟨_, rfl⟩
    have hc2 : JV (Ev mtab mcode d) jcX1_restart (50, [(0, .ref b)], []) (n, c, s, fm b (itr (fun jz s => bd_X1_restart_27 jz s) k (j + 1) s1) M) o hf := by
      subst hx
      exact hc
    clear hc
    have iv := fb_X1_restart_27 (B := B) (m0 := m0) hB (j := j) (m := m) (by omega) hW
    rw [hx] at iv
    unfold bd_X1_restart_27 at hx
    refine JV.ild (p2 := 28) rfl rfl rfl ?_
    refine JV.ald (p2 := 29) rfl rfl rfl ?_
    refine JV.getF1 (p2 := 32) rfl rfl ?_
    refine JV.brF (p2 := 35) rfl rfl rfl (by rw [hN]; exact nI_ge (a := j) (b := N) (by omega) (by omega)) ?_
    refine JV.ald (p2 := 36) rfl rfl rfl ?_
    refine JV.getFr1 (p2 := 39) rfl rfl ?_
    refine JV.ild (p2 := 40) rfl rfl rfl ?_
    refine JV.elT (p2 := 41) rfl rfl (by omega) rfl ?_
    refine JV.inv0 (p2 := 44) rfl rfl rfl (fm_T (by omega)) (Nat.le_of_ble_eq_true rfl) rfl (ev_X5_restart (by omega) (by omega) rfl) ?_
    refine JV.iinc (p2 := 47) rfl rfl (nI_1 _) rfl rfl ?_
    refine JV.goto rfl ?_
    subst hx
    exact ih (j + 1) _ (by omega) ((FW.same iv hW (by decide)).trans hN) iv hc2
theorem lq_X1_restart_27 {d n c s b : Nat} {M : JM} {o : JO} {hf : JH} {B : Nat} {m0 : Mem} {N : Nat} {m : Mem} (hd : 1 ≤ d) (hB : B + 0 < 2147483648) (hNc : N ≤ 3) (hN : m 0 0 1 = nI N) (hW : FW (B + 0 * 0) m0 m) (hc : JV (Ev mtab mcode d) jcX1_restart (50, [(0, .ref b)], []) (n, c, s, fm b (lf_X1_restart_27 N m) M) o hf) : JV (Ev mtab mcode d) jcX1_restart (27, [(0, .ref b), (1, .int 0)], []) (n, c, s, fm b m M) o hf := by
  rw [lf_X1_restart_27_eq] at hc
  unfold ly_X1_restart_27 at hc
  exact lp_X1_restart_27 (B := B) (m0 := m0) hd hB hNc N 0 m (by omega) hN hW hc
noncomputable def y_X1_restart (m : Mem) : Mem := (up3 (up3 (up3 (lf_X1_restart_27 (ix (m 0 0 1)) (lf_X1_restart_2 (ix (m 0 0 0)) m)) 0 0 2 0) 0 0 3 0) 4 0 0 0)
theorem xe_X1_restart : ∃ f, f = y_X1_restart := ⟨y_X1_restart, rfl⟩
noncomputable def x_X1_restart := Classical.choose xe_X1_restart
theorem x_X1_restart_eq : x_X1_restart = y_X1_restart := Classical.choose_spec xe_X1_restart
theorem ev_X1_restart {d n c s b : Nat} {m : Mem} {M : JM} {B : Nat} {m0 : Mem} {res : Mem} (hd : 2 ≤ d) (hW : FW B m0 m) (hB : B + 0 < 2147483648) (hx : x_X1_restart m = res) : Ev mtab mcode d 8 [.ref b] (n, c, s, fm b m M) (.inl none) (n, c, s, fm b res M) := by
  obtain ⟨d, rfl⟩ : ∃ e, d = e + 1 := ⟨d - 1, by omega⟩
  rw [x_X1_restart_eq] at hx
  unfold y_X1_restart at hx
  refine jv_mk (m := mX1_restart) (cd := jcX1_restart) rfl rfl (Nat.le_of_ble_eq_true rfl) trivial ?_
  refine JV.stk (len := 1) (sem := (s_push (.int 0))) (p2 := 1) rfl rfl rfl ?_
  refine JV.ist (p2 := 2) rfl rfl rfl ?_
  refine lq_X1_restart_2 (m := m) (N := (ix (m 0 0 0))) (B := B) (m0 := m0) (by omega) (by omega) hW.1.ns.2 (FW.cN hW hW (by decide)) (FW.mono hW (by omega)) ?_
  refine JV.stk (len := 1) (sem := (s_push (.int 0))) (p2 := 26) rfl rfl rfl ?_
  refine JV.ist (p2 := 27) rfl rfl rfl ?_
  refine lq_X1_restart_27 (m := (lf_X1_restart_2 (ix (m 0 0 0)) m)) (N := (ix (m 0 0 1))) (B := B) (m0 := m0) (by omega) (by omega) hW.1.nt.2 (FW.cN (FW.mono (fl_X1_restart_2 (m := m) (N := (ix (m 0 0 0))) (B := B) (m0 := m0) (by omega) hW.1.ns.2 (FW.mono hW (by omega))) (B' := B + 0) (by have hc9 := hW.1.ns.2; omega)) hW (by decide)) (FW.mono (FW.mono (fl_X1_restart_2 (m := m) (N := (ix (m 0 0 0))) (B := B) (m0 := m0) (by omega) hW.1.ns.2 (FW.mono hW (by omega))) (B' := B + 0) (by have hc9 := hW.1.ns.2; omega)) (by omega)) ?_
  refine JV.ald (p2 := 51) rfl rfl rfl ?_
  refine JV.stk (len := 1) (sem := (s_push (.int 0))) (p2 := 52) rfl rfl rfl ?_
  refine JV.putF2 (p2 := 55) rfl rfl ?_
  refine JV.ald (p2 := 56) rfl rfl rfl ?_
  refine JV.stk (len := 1) (sem := (s_push (.int 0))) (p2 := 57) rfl rfl rfl ?_
  refine JV.putF3 (p2 := 60) rfl rfl ?_
  refine JV.ald (p2 := 61) rfl rfl rfl ?_
  refine JV.getFr3 (p2 := 64) rfl rfl ?_
  refine JV.stk (len := 1) (sem := (s_push (.int 0))) (p2 := 65) rfl rfl rfl ?_
  refine JV.putL0 (p2 := 68) rfl rfl ?_
  subst hx
  exact JV.ret rfl (fun _ => rfl) rfl rfl
noncomputable def bd_X1_build_12 (w1 : Int32) (w2 : Int32) (j : Nat) (m : Mem) : Mem := (up3 m 1 j 0 2)
noncomputable def ly_X1_build_12 (w1 : Int32) (w2 : Int32) (N : Nat) (m : Mem) : Mem := itr (fun jz s => bd_X1_build_12 w1 w2 jz s) N 0 m
theorem le_X1_build_12 : ∃ f, f = ly_X1_build_12 := ⟨ly_X1_build_12, rfl⟩
noncomputable def lf_X1_build_12 := Classical.choose le_X1_build_12
theorem lf_X1_build_12_eq : lf_X1_build_12 = ly_X1_build_12 := Classical.choose_spec le_X1_build_12
theorem fb_X1_build_12 {B : Nat} {m0 : Mem} {w1 : Int32} {w2 : Int32} (hB : B + 0 < 2147483648) {j : Nat} {m : Mem} (hjN : j < 6) (hW : FW (B + 0 * j) m0 m) : (FW (B + 0 * (j + 1)) m0 (bd_X1_build_12 w1 w2 j m)) := by
  unfold bd_X1_build_12
  exact (FW.mono (FW.up hW rfl) (by omega))
theorem fl_X1_build_12 {B : Nat} {m0 : Mem} {w1 : Int32} {w2 : Int32} {N : Nat} (hB : B + 0 < 2147483648) {m : Mem} (hNc : N ≤ 6) (hW : FW (B + 0 * 0) m0 m) : (FW (B + 0 * N) m0 (lf_X1_build_12 w1 w2 N m)) := by
  rw [lf_X1_build_12_eq]
  unfold ly_X1_build_12
  exact itr_inv (n := N) (s := m) (P := fun jz s => (FW (B + 0 * jz) m0 s)) (fun jz s => bd_X1_build_12 w1 w2 jz s) (fun jz s hj hs => fb_X1_build_12 (B := B) (m0 := m0) hB (j := jz) (m := s) (by omega) hs) hW
theorem lp_X1_build_12 {d n c s b : Nat} {M : JM} {o : JO} {hf : JH} {B : Nat} {m0 : Mem} {w1 : Int32} {w2 : Int32} {N : Nat} (hd : 2 ≤ d) (hB : B + 0 < 2147483648) (hNc : N ≤ 6) : ∀ (k j : Nat) (m : Mem), j + k = N → m 0 0 0 = nI N → (FW (B + 0 * j) m0 m) → JV (Ev mtab mcode d) jcX1_build (36, [(0, .ref b), (1, .int w1), (2, .int w2)], []) (n, c, s, fm b (itr (fun jz s => bd_X1_build_12 w1 w2 jz s) k j m) M) o hf → JV (Ev mtab mcode d) jcX1_build (12, [(0, .ref b), (1, .int w1), (2, .int w2), (3, .int (nI j))], []) (n, c, s, fm b m M) o hf := by
  intro k
  induction k with
  | zero =>
    intro j m hj hN hW hc
    refine JV.ild (p2 := 13) rfl rfl rfl ?_
    refine JV.ald (p2 := 14) rfl rfl rfl ?_
    refine JV.getF0 (p2 := 17) rfl rfl ?_
    refine JV.brT rfl rfl (by rw [hN]; exact nI_le (a := N) (b := j) (by omega) (by omega)) ?_
    exact JV.keep [0, 1, 2] rfl hc
  | succ k ih =>
    intro j m hj hN hW hc
    obtain ⟨s1, hx⟩ : ∃ s1, bd_X1_build_12 w1 w2 j m = s1 := ⟨_, rfl⟩
    have hc2 : JV (Ev mtab mcode d) jcX1_build (36, [(0, .ref b), (1, .int w1), (2, .int w2)], []) (n, c, s, fm b (itr (fun jz s => bd_X1_build_12 w1 w2 jz s) k (j + 1) s1) M) o hf := by
      subst hx
      exact hc
    clear hc
    have iv := fb_X1_build_12 (B := B) (m0 := m0) (w1 := w1) (w2 := w2) hB (j := j) (m := m) (by omega) hW
    rw [hx] at iv
    unfold bd_X1_build_12 at hx
    refine JV.ild (p2 := 13) rfl rfl rfl ?_
    refine JV.ald (p2 := 14) rfl rfl rfl ?_
    refine JV.getF0 (p2 := 17) rfl rfl ?_
    refine JV.brF (p2 := 20) rfl rfl rfl (by rw [hN]; exact nI_ge (a := j) (b := N) (by omega) (by omega)) ?_
    refine JV.ald (p2 := 21) rfl rfl rfl ?_
    refine JV.getFr0 (p2 := 24) rfl rfl ?_
    refine JV.ild (p2 := 25) rfl rfl rfl ?_
    refine JV.elS (p2 := 26) rfl rfl (by omega) rfl ?_
    refine JV.stk (len := 1) (sem := (s_push (.int 2))) (p2 := 27) rfl rfl rfl ?_
    refine JV.putS0 (p2 := 30) rfl (by omega) rfl ?_
    refine JV.iinc (p2 := 33) rfl rfl (nI_1 _) rfl rfl ?_
    refine JV.goto rfl ?_
    subst hx
    exact ih (j + 1) _ (by omega) ((FW.same iv hW (by decide)).trans hN) iv hc2
theorem lq_X1_build_12 {d n c s b : Nat} {M : JM} {o : JO} {hf : JH} {B : Nat} {m0 : Mem} {w1 : Int32} {w2 : Int32} {N : Nat} {m : Mem} (hd : 2 ≤ d) (hB : B + 0 < 2147483648) (hNc : N ≤ 6) (hN : m 0 0 0 = nI N) (hW : FW (B + 0 * 0) m0 m) (hc : JV (Ev mtab mcode d) jcX1_build (36, [(0, .ref b), (1, .int w1), (2, .int w2)], []) (n, c, s, fm b (lf_X1_build_12 w1 w2 N m) M) o hf) : JV (Ev mtab mcode d) jcX1_build (12, [(0, .ref b), (1, .int w1), (2, .int w2), (3, .int 0)], []) (n, c, s, fm b m M) o hf := by
  rw [lf_X1_build_12_eq] at hc
  unfold ly_X1_build_12 at hc
  exact lp_X1_build_12 (B := B) (m0 := m0) hd hB hNc N 0 m (by omega) hN hW hc
noncomputable def bd_X1_build_38 (w1 : Int32) (w2 : Int32) (j : Nat) (m : Mem) : Mem := (up3 m 2 j 0 3)
noncomputable def ly_X1_build_38 (w1 : Int32) (w2 : Int32) (N : Nat) (m : Mem) : Mem := itr (fun jz s => bd_X1_build_38 w1 w2 jz s) N 0 m
theorem le_X1_build_38 : ∃ f, f = ly_X1_build_38 := ⟨ly_X1_build_38, rfl⟩
noncomputable def lf_X1_build_38 := Classical.choose le_X1_build_38
theorem lf_X1_build_38_eq : lf_X1_build_38 = ly_X1_build_38 := Classical.choose_spec le_X1_build_38
theorem fb_X1_build_38 {B : Nat} {m0 : Mem} {w1 : Int32} {w2 : Int32} (hB : B + 0 < 2147483648) {j : Nat} {m : Mem} (hjN : j < 3) (hW : FW (B + 0 * j) m0 m) : (FW (B + 0 * (j + 1)) m0 (bd_X1_build_38 w1 w2 j m)) := by
  unfold bd_X1_build_38
  exact (FW.mono (FW.up hW rfl) (by omega))
theorem fl_X1_build_38 {B : Nat} {m0 : Mem} {w1 : Int32} {w2 : Int32} {N : Nat} (hB : B + 0 < 2147483648) {m : Mem} (hNc : N ≤ 3) (hW : FW (B + 0 * 0) m0 m) : (FW (B + 0 * N) m0 (lf_X1_build_38 w1 w2 N m)) := by
  rw [lf_X1_build_38_eq]
  unfold ly_X1_build_38
  exact itr_inv (n := N) (s := m) (P := fun jz s => (FW (B + 0 * jz) m0 s)) (fun jz s => bd_X1_build_38 w1 w2 jz s) (fun jz s hj hs => fb_X1_build_38 (B := B) (m0 := m0) hB (j := jz) (m := s) (by omega) hs) hW
theorem lp_X1_build_38 {d n c s b : Nat} {M : JM} {o : JO} {hf : JH} {B : Nat} {m0 : Mem} {w1 : Int32} {w2 : Int32} {N : Nat} (hd : 2 ≤ d) (hB : B + 0 < 2147483648) (hNc : N ≤ 3) : ∀ (k j : Nat) (m : Mem), j + k = N → m 0 0 1 = nI N → (FW (B + 0 * j) m0 m) → JV (Ev mtab mcode d) jcX1_build (62, [(0, .ref b), (1, .int w1), (2, .int w2)], []) (n, c, s, fm b (itr (fun jz s => bd_X1_build_38 w1 w2 jz s) k j m) M) o hf → JV (Ev mtab mcode d) jcX1_build (38, [(0, .ref b), (1, .int w1), (2, .int w2), (3, .int (nI j))], []) (n, c, s, fm b m M) o hf := by
  intro k
  induction k with
  | zero =>
    intro j m hj hN hW hc
    refine JV.ild (p2 := 39) rfl rfl rfl ?_
    refine JV.ald (p2 := 40) rfl rfl rfl ?_
    refine JV.getF1 (p2 := 43) rfl rfl ?_
    refine JV.brT rfl rfl (by rw [hN]; exact nI_le (a := N) (b := j) (by omega) (by omega)) ?_
    exact JV.keep [0, 1, 2] rfl hc
  | succ k ih =>
    intro j m hj hN hW hc
    obtain ⟨s1, hx⟩ : ∃ s1, bd_X1_build_38 w1 w2 j m = s1 := ⟨_, rfl⟩
    have hc2 : JV (Ev mtab mcode d) jcX1_build (62, [(0, .ref b), (1, .int w1), (2, .int w2)], []) (n, c, s, fm b (itr (fun jz s => bd_X1_build_38 w1 w2 jz s) k (j + 1) s1) M) o hf := by
      subst hx
      exact hc
    clear hc
    have iv := fb_X1_build_38 (B := B) (m0 := m0) (w1 := w1) (w2 := w2) hB (j := j) (m := m) (by omega) hW
    rw [hx] at iv
    unfold bd_X1_build_38 at hx
    refine JV.ild (p2 := 39) rfl rfl rfl ?_
    refine JV.ald (p2 := 40) rfl rfl rfl ?_
    refine JV.getF1 (p2 := 43) rfl rfl ?_
    refine JV.brF (p2 := 46) rfl rfl rfl (by rw [hN]; exact nI_ge (a := j) (b := N) (by omega) (by omega)) ?_
    refine JV.ald (p2 := 47) rfl rfl rfl ?_
    refine JV.getFr1 (p2 := 50) rfl rfl ?_
    refine JV.ild (p2 := 51) rfl rfl rfl ?_
    refine JV.elT (p2 := 52) rfl rfl (by omega) rfl ?_
    refine JV.stk (len := 1) (sem := (s_push (.int 3))) (p2 := 53) rfl rfl rfl ?_
    refine JV.putT0 (p2 := 56) rfl (by omega) rfl ?_
    refine JV.iinc (p2 := 59) rfl rfl (nI_1 _) rfl rfl ?_
    refine JV.goto rfl ?_
    subst hx
    exact ih (j + 1) _ (by omega) ((FW.same iv hW (by decide)).trans hN) iv hc2
theorem lq_X1_build_38 {d n c s b : Nat} {M : JM} {o : JO} {hf : JH} {B : Nat} {m0 : Mem} {w1 : Int32} {w2 : Int32} {N : Nat} {m : Mem} (hd : 2 ≤ d) (hB : B + 0 < 2147483648) (hNc : N ≤ 3) (hN : m 0 0 1 = nI N) (hW : FW (B + 0 * 0) m0 m) (hc : JV (Ev mtab mcode d) jcX1_build (62, [(0, .ref b), (1, .int w1), (2, .int w2)], []) (n, c, s, fm b (lf_X1_build_38 w1 w2 N m) M) o hf) : JV (Ev mtab mcode d) jcX1_build (38, [(0, .ref b), (1, .int w1), (2, .int w2), (3, .int 0)], []) (n, c, s, fm b m M) o hf := by
  rw [lf_X1_build_38_eq] at hc
  unfold ly_X1_build_38 at hc
  exact lp_X1_build_38 (B := B) (m0 := m0) hd hB hNc N 0 m (by omega) hN hW hc
noncomputable def y_X1_build (m : Mem) (p1 : Int32) (p2 : Int32) : Mem := (x_X1_restart (lf_X1_build_38 p1 p2 (ix ((lf_X1_build_12 p1 p2 (ix ((up3 (up3 m 0 0 0 p1) 0 0 1 p2) 0 0 0)) (up3 (up3 m 0 0 0 p1) 0 0 1 p2)) 0 0 1)) (lf_X1_build_12 p1 p2 (ix ((up3 (up3 m 0 0 0 p1) 0 0 1 p2) 0 0 0)) (up3 (up3 m 0 0 0 p1) 0 0 1 p2))))
theorem xe_X1_build : ∃ f, f = y_X1_build := ⟨y_X1_build, rfl⟩
noncomputable def x_X1_build := Classical.choose xe_X1_build
theorem x_X1_build_eq : x_X1_build = y_X1_build := Classical.choose_spec xe_X1_build
theorem ev_X1_build {d n c s b : Nat} {m : Mem} {M : JM} {p1 : Int32} {p2 : Int32} {B : Nat} {m0 : Mem} {res : Mem} (hd : 3 ≤ d) (hW : FW B m0 m) (hB : B + 0 < 2147483648) (hv1 : VN 6 p1) (hv2 : VN 3 p2) (hx : x_X1_build m p1 p2 = res) : Ev mtab mcode d 7 [.ref b, .int p1, .int p2] (n, c, s, fm b m M) (.inl none) (n, c, s, fm b res M) := by
  obtain ⟨d, rfl⟩ : ∃ e, d = e + 1 := ⟨d - 1, by omega⟩
  rw [x_X1_build_eq] at hx
  unfold y_X1_build at hx
  refine jv_mk (m := mX1_build) (cd := jcX1_build) rfl rfl (Nat.le_of_ble_eq_true rfl) trivial ?_
  refine JV.ald (p2 := 1) rfl rfl rfl ?_
  refine JV.ild (p2 := 2) rfl rfl rfl ?_
  refine JV.putF0 (p2 := 5) rfl rfl ?_
  refine JV.ald (p2 := 6) rfl rfl rfl ?_
  refine JV.ild (p2 := 7) rfl rfl rfl ?_
  refine JV.putF1 (p2 := 10) rfl rfl ?_
  refine JV.stk (len := 1) (sem := (s_push (.int 0))) (p2 := 11) rfl rfl rfl ?_
  refine JV.ist (p2 := 12) rfl rfl rfl ?_
  refine lq_X1_build_12 (m := (up3 (up3 m 0 0 0 p1) 0 0 1 p2)) (N := (ix ((up3 (up3 m 0 0 0 p1) 0 0 1 p2) 0 0 0))) (w1 := p1) (w2 := p2) (B := B) (m0 := (up3 (up3 m 0 0 0 p1) 0 0 1 p2)) (by omega) (by omega) (fw_cnt hW hv1 hv2).1.ns.2 (fw_cnt hW hv1 hv2).1.ns.1 (FW.mono (fw_cnt hW hv1 hv2) (by omega)) ?_
  refine JV.stk (len := 1) (sem := (s_push (.int 0))) (p2 := 37) rfl rfl rfl ?_
  refine JV.ist (p2 := 38) rfl rfl rfl ?_
  refine lq_X1_build_38 (m := (lf_X1_build_12 p1 p2 (ix ((up3 (up3 m 0 0 0 p1) 0 0 1 p2) 0 0 0)) (up3 (up3 m 0 0 0 p1) 0 0 1 p2))) (N := (ix ((lf_X1_build_12 p1 p2 (ix ((up3 (up3 m 0 0 0 p1) 0 0 1 p2) 0 0 0)) (up3 (up3 m 0 0 0 p1) 0 0 1 p2)) 0 0 1))) (w1 := p1) (w2 := p2) (B := B) (m0 := (up3 (up3 m 0 0 0 p1) 0 0 1 p2)) (by omega) (by omega) (FW.mono (fl_X1_build_12 (m := (up3 (up3 m 0 0 0 p1) 0 0 1 p2)) (N := (ix ((up3 (up3 m 0 0 0 p1) 0 0 1 p2) 0 0 0))) (w1 := p1) (w2 := p2) (B := B) (m0 := (up3 (up3 m 0 0 0 p1) 0 0 1 p2)) (by omega) (fw_cnt hW hv1 hv2).1.ns.2 (FW.mono (fw_cnt hW hv1 hv2) (by omega))) (B' := B + 0) (by have hc9 := (fw_cnt hW hv1 hv2).1.ns.2; omega)).1.nt.2 (FW.mono (fl_X1_build_12 (m := (up3 (up3 m 0 0 0 p1) 0 0 1 p2)) (N := (ix ((up3 (up3 m 0 0 0 p1) 0 0 1 p2) 0 0 0))) (w1 := p1) (w2 := p2) (B := B) (m0 := (up3 (up3 m 0 0 0 p1) 0 0 1 p2)) (by omega) (fw_cnt hW hv1 hv2).1.ns.2 (FW.mono (fw_cnt hW hv1 hv2) (by omega))) (B' := B + 0) (by have hc9 := (fw_cnt hW hv1 hv2).1.ns.2; omega)).1.nt.1 (FW.mono (FW.mono (fl_X1_build_12 (m := (up3 (up3 m 0 0 0 p1) 0 0 1 p2)) (N := (ix ((up3 (up3 m 0 0 0 p1) 0 0 1 p2) 0 0 0))) (w1 := p1) (w2 := p2) (B := B) (m0 := (up3 (up3 m 0 0 0 p1) 0 0 1 p2)) (by omega) (fw_cnt hW hv1 hv2).1.ns.2 (FW.mono (fw_cnt hW hv1 hv2) (by omega))) (B' := B + 0) (by have hc9 := (fw_cnt hW hv1 hv2).1.ns.2; omega)) (by omega)) ?_
  refine JV.ald (p2 := 63) rfl rfl rfl ?_
  refine JV.inv0 (p2 := 66) rfl rfl rfl fm_F (Nat.le_of_ble_eq_true rfl) rfl (ev_X1_restart (by omega) (FW.mono (fl_X1_build_38 (m := (lf_X1_build_12 p1 p2 (ix ((up3 (up3 m 0 0 0 p1) 0 0 1 p2) 0 0 0)) (up3 (up3 m 0 0 0 p1) 0 0 1 p2))) (N := (ix ((lf_X1_build_12 p1 p2 (ix ((up3 (up3 m 0 0 0 p1) 0 0 1 p2) 0 0 0)) (up3 (up3 m 0 0 0 p1) 0 0 1 p2)) 0 0 1))) (w1 := p1) (w2 := p2) (B := B) (m0 := (up3 (up3 m 0 0 0 p1) 0 0 1 p2)) (by omega) (FW.mono (fl_X1_build_12 (m := (up3 (up3 m 0 0 0 p1) 0 0 1 p2)) (N := (ix ((up3 (up3 m 0 0 0 p1) 0 0 1 p2) 0 0 0))) (w1 := p1) (w2 := p2) (B := B) (m0 := (up3 (up3 m 0 0 0 p1) 0 0 1 p2)) (by omega) (fw_cnt hW hv1 hv2).1.ns.2 (FW.mono (fw_cnt hW hv1 hv2) (by omega))) (B' := B + 0) (by have hc9 := (fw_cnt hW hv1 hv2).1.ns.2; omega)).1.nt.2 (FW.mono (FW.mono (fl_X1_build_12 (m := (up3 (up3 m 0 0 0 p1) 0 0 1 p2)) (N := (ix ((up3 (up3 m 0 0 0 p1) 0 0 1 p2) 0 0 0))) (w1 := p1) (w2 := p2) (B := B) (m0 := (up3 (up3 m 0 0 0 p1) 0 0 1 p2)) (by omega) (fw_cnt hW hv1 hv2).1.ns.2 (FW.mono (fw_cnt hW hv1 hv2) (by omega))) (B' := B + 0) (by have hc9 := (fw_cnt hW hv1 hv2).1.ns.2; omega)) (by omega))) (B' := B + 0) (by have hc9 := (FW.mono (fl_X1_build_12 (m := (up3 (up3 m 0 0 0 p1) 0 0 1 p2)) (N := (ix ((up3 (up3 m 0 0 0 p1) 0 0 1 p2) 0 0 0))) (w1 := p1) (w2 := p2) (B := B) (m0 := (up3 (up3 m 0 0 0 p1) 0 0 1 p2)) (by omega) (fw_cnt hW hv1 hv2).1.ns.2 (FW.mono (fw_cnt hW hv1 hv2) (by omega))) (B' := B + 0) (by have hc9 := (fw_cnt hW hv1 hv2).1.ns.2; omega)).1.nt.2; omega)) (by omega) rfl) ?_
  subst hx
  exact JV.ret rfl (fun _ => rfl) rfl rfl
noncomputable def y_X1_add (m : Mem) (p1 : Int32) (p2 : Int32) (p3 : Int32) (p4 : Int32) : Mem := (if (m 0 0 2) < 12 then (up3 (x_X0_tell m (ix (m 0 0 2)) p1 p2 p3 p4) 0 0 2 (((x_X0_tell m (ix (m 0 0 2)) p1 p2 p3 p4) 0 0 2) + 1)) else m)
theorem xe_X1_add : ∃ f, f = y_X1_add := ⟨y_X1_add, rfl⟩
noncomputable def x_X1_add := Classical.choose xe_X1_add
theorem x_X1_add_eq : x_X1_add = y_X1_add := Classical.choose_spec xe_X1_add
theorem ev_X1_add {d n c s b : Nat} {m : Mem} {M : JM} {p1 : Int32} {p2 : Int32} {p3 : Int32} {p4 : Int32} {res : Mem} (hd : 2 ≤ d) (hF : FK m) (hx : x_X1_add m p1 p2 p3 p4 = res) : Ev mtab mcode d 13 [.ref b, .int p1, .int p2, .int p3, .int p4] (n, c, s, fm b m M) (.inl none) (n, c, s, fm b res M) := by
  obtain ⟨d, rfl⟩ : ∃ e, d = e + 1 := ⟨d - 1, by omega⟩
  rw [x_X1_add_eq] at hx
  unfold y_X1_add at hx
  refine jv_mk (m := mX1_add) (cd := jcX1_add) rfl rfl (Nat.le_of_ble_eq_true rfl) trivial ?_
  refine JV.ald (p2 := 1) rfl rfl rfl ?_
  refine JV.getF2 (p2 := 4) rfl rfl ?_
  refine JV.stk (len := 2) (sem := (s_push (.int 12))) (p2 := 6) rfl rfl rfl ?_
  by_cases h6 : (m 0 0 2) < 12
  · rw [if_pos h6] at hx
    refine JV.brF (p2 := 9) rfl rfl rfl (Int32.not_le.mpr h6) ?_
    refine JV.ald (p2 := 10) rfl rfl rfl ?_
    refine JV.getFr2 (p2 := 13) rfl rfl ?_
    refine JV.ald (p2 := 14) rfl rfl rfl ?_
    refine JV.getF2 (p2 := 17) rfl rfl ?_
    have b17 : ix (m 0 0 2) < 12 := ix_ltL hF.na h6 (by decide) (by decide)
    refine JV.elA (p2 := 18) rfl hF.na.1 (by omega) rfl ?_
    refine JV.ild (p2 := 19) rfl rfl rfl ?_
    refine JV.ild (p2 := 20) rfl rfl rfl ?_
    refine JV.ild (p2 := 21) rfl rfl rfl ?_
    refine JV.ild (p2 := 23) rfl rfl rfl ?_
    refine JV.inv0 (p2 := 26) rfl rfl rfl (fm_A (by omega)) (Nat.le_of_ble_eq_true rfl) rfl (ev_X0_tell (by omega) (by omega) rfl) ?_
    refine JV.ald (p2 := 27) rfl rfl rfl ?_
    refine JV.stk (len := 1) (sem := s_dup) (p2 := 28) rfl rfl rfl ?_
    refine JV.getF2 (p2 := 31) rfl rfl ?_
    refine JV.stk (len := 1) (sem := (s_push (.int 1))) (p2 := 32) rfl rfl rfl ?_
    refine JV.stk (len := 1) (sem := s_iadd) (p2 := 33) rfl rfl rfl ?_
    refine JV.putF2 (p2 := 36) rfl rfl ?_
    subst hx
    exact JV.ret rfl (fun _ => rfl) rfl rfl
  · rw [if_neg h6] at hx
    refine JV.brT rfl rfl (Int32.not_lt.mp h6) ?_
    subst hx
    exact JV.ret rfl (fun _ => rfl) rfl rfl
noncomputable def y_X1_addTug (m : Mem) (p1 : Int32) : Mem := (if (m 0 0 1) < 3 then (up3 (x_X5_restart (up3 m 2 (ix (m 0 0 1)) 0 p1) (ix (m 0 0 1))) 0 0 1 (((x_X5_restart (up3 m 2 (ix (m 0 0 1)) 0 p1) (ix (m 0 0 1))) 0 0 1) + 1)) else m)
theorem xe_X1_addTug : ∃ f, f = y_X1_addTug := ⟨y_X1_addTug, rfl⟩
noncomputable def x_X1_addTug := Classical.choose xe_X1_addTug
theorem x_X1_addTug_eq : x_X1_addTug = y_X1_addTug := Classical.choose_spec xe_X1_addTug
noncomputable def bd_X7_laysAside_2 (j : Nat) (m : Mem) : Mem := (up3 m 3 0 j (m 1 0 j))
noncomputable def ly_X7_laysAside_2 (N : Nat) (m : Mem) : Mem := itr (fun jz s => bd_X7_laysAside_2 jz s) N 0 m
theorem le_X7_laysAside_2 : ∃ f, f = ly_X7_laysAside_2 := ⟨ly_X7_laysAside_2, rfl⟩
noncomputable def lf_X7_laysAside_2 := Classical.choose le_X7_laysAside_2
theorem lf_X7_laysAside_2_eq : lf_X7_laysAside_2 = ly_X7_laysAside_2 := Classical.choose_spec le_X7_laysAside_2
theorem fb_X7_laysAside_2 {B : Nat} {m0 : Mem} (hB : B + 0 < 2147483648) {j : Nat} {m : Mem} (hjN : j < 245) (hW : MW (B + 0 * j) m0 m) : (MW (B + 0 * (j + 1)) m0 (bd_X7_laysAside_2 j m)) := by
  unfold bd_X7_laysAside_2
  exact (MW.mono (MW.upo hW (by decide)) (by omega))
theorem fl_X7_laysAside_2 {B : Nat} {m0 : Mem} (hB : B + 0 < 2147483648) {m : Mem} {N : Nat} (hNl : N = 245) (hW : MW (B + 0 * 0) m0 m) : (MW (B + 0 * N) m0 (lf_X7_laysAside_2 N m)) := by
  rw [lf_X7_laysAside_2_eq]
  unfold ly_X7_laysAside_2
  exact itr_inv (n := N) (s := m) (P := fun jz s => (MW (B + 0 * jz) m0 s)) (fun jz s => bd_X7_laysAside_2 jz s) (fun jz s hj hs => fb_X7_laysAside_2 (B := B) (m0 := m0) hB (j := jz) (m := s) (by omega) hs) hW
noncomputable def y_X7_laysAside (m : Mem) : Mem := (lf_X7_laysAside_2 245 m)
theorem xe_X7_laysAside : ∃ f, f = y_X7_laysAside := ⟨y_X7_laysAside, rfl⟩
noncomputable def x_X7_laysAside := Classical.choose xe_X7_laysAside
theorem x_X7_laysAside_eq : x_X7_laysAside = y_X7_laysAside := Classical.choose_spec xe_X7_laysAside
theorem fw_X7_laysAside {m : Mem} {B : Nat} {m0 : Mem} (hW : MW B m0 m) (hB : B + 0 < 2147483648) : MW (B + 0) m0 (x_X7_laysAside m) := by
  rw [x_X7_laysAside_eq]
  unfold y_X7_laysAside
  exact MW.mono (MW.mono (fl_X7_laysAside_2 (m := m) (B := B) (m0 := m0) (by omega) (N := 245) rfl (MW.mono hW (by omega))) (B' := B + 0) (by omega)) (by omega)
noncomputable def bd_X7_takesBack_2 (j : Nat) (m : Mem) : Mem := (up3 m 1 0 j (m 3 0 j))
noncomputable def ly_X7_takesBack_2 (N : Nat) (m : Mem) : Mem := itr (fun jz s => bd_X7_takesBack_2 jz s) N 0 m
theorem le_X7_takesBack_2 : ∃ f, f = ly_X7_takesBack_2 := ⟨ly_X7_takesBack_2, rfl⟩
noncomputable def lf_X7_takesBack_2 := Classical.choose le_X7_takesBack_2
theorem lf_X7_takesBack_2_eq : lf_X7_takesBack_2 = ly_X7_takesBack_2 := Classical.choose_spec le_X7_takesBack_2
noncomputable def y_X7_takesBack (m : Mem) : Mem := (lf_X7_takesBack_2 245 m)
theorem xe_X7_takesBack : ∃ f, f = y_X7_takesBack := ⟨y_X7_takesBack, rfl⟩
noncomputable def x_X7_takesBack := Classical.choose xe_X7_takesBack
theorem x_X7_takesBack_eq : x_X7_takesBack = y_X7_takesBack := Classical.choose_spec xe_X7_takesBack
