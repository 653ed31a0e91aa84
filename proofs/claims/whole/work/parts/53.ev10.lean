theorem mw_c2 {B : Nat} {m0 m : Mem} (h : MW B m0 m) : MW B (up3 m 1 0 2 0) (up3 m 1 0 2 0) := by
  refine ⟨⟨?_, ?_, ?_, ?_, ?_, ?_, ?_⟩, rfl, fun q hq => rfl⟩
  · rw [up3_k (by decide)]; exact h.1.1
  · rw [up3_k (by decide)]; exact h.1.2.1
  · rw [up3_self]; exact ⟨by decide, by decide⟩
  · rw [up3_k (by decide)]; exact h.1.2.2.2.1
  · rw [up3_k (by decide)]; exact h.1.2.2.2.2.1
  · rw [up3_k (by decide)]; exact h.1.2.2.2.2.2.1
  · rw [up3_k (by decide)]; exact h.1.2.2.2.2.2.2
theorem mw_cnt {B : Nat} {m0 m : Mem} {p1 p2 : Int32} (h : MW B m0 m) (h1 : VN 6 p1) (h2 : VN 3 p2) : MW B (up3 (up3 m 1 0 0 p1) 1 0 1 p2) (up3 (up3 m 1 0 0 p1) 1 0 1 p2) := by
  refine ⟨⟨?_, ?_, ?_, ?_, ?_, ?_, ?_⟩, rfl, fun q hq => rfl⟩
  · rw [up3_k (by decide), up3_self]; exact h1
  · rw [up3_self]; exact h2
  · rw [up3_k (by decide), up3_k (by decide)]; exact h.1.2.2.1
  · rw [up3_k (by decide), up3_k (by decide)]; exact h.1.2.2.2.1
  · rw [up3_k (by decide), up3_k (by decide)]; exact h.1.2.2.2.2.1
  · rw [up3_k (by decide), up3_k (by decide)]; exact h.1.2.2.2.2.2.1
  · rw [up3_k (by decide), up3_k (by decide)]; exact h.1.2.2.2.2.2.2
noncomputable def bd_X7_clears_32 (j : Nat) (m : Mem) : Mem := (up3 m 1 0 (8 + 2 * j + 1) 0)
noncomputable def ly_X7_clears_32 (N : Nat) (m : Mem) : Mem := itr (fun jz s => bd_X7_clears_32 jz s) N 0 m
theorem le_X7_clears_32 : ∃ f, f = ly_X7_clears_32 := ⟨ly_X7_clears_32, rfl⟩
noncomputable def lf_X7_clears_32 := Classical.choose le_X7_clears_32
theorem lf_X7_clears_32_eq : lf_X7_clears_32 = ly_X7_clears_32 := Classical.choose_spec le_X7_clears_32
theorem fb_X7_clears_32 {B : Nat} {m0 : Mem} (hB : B + 0 < 2147483648) {j : Nat} {m : Mem} (hjN : j < 6) (hW : MW (B + 0 * j) m0 m) : (MW (B + 0 * (j + 1)) m0 (bd_X7_clears_32 j m)) := by
  unfold bd_X7_clears_32
  exact (MW.mono (MW.up hW (by unfold mok; omega)) (by omega))
theorem fl_X7_clears_32 {B : Nat} {m0 : Mem} (hB : B + 0 < 2147483648) {m : Mem} {N : Nat} (hNl : N = 6) (hW : MW (B + 0 * 0) m0 m) : (MW (B + 0 * N) m0 (lf_X7_clears_32 N m)) := by
  rw [lf_X7_clears_32_eq]
  unfold ly_X7_clears_32
  exact itr_inv (n := N) (s := m) (P := fun jz s => (MW (B + 0 * jz) m0 s)) (fun jz s => bd_X7_clears_32 jz s) (fun jz s hj hs => fb_X7_clears_32 (B := B) (m0 := m0) hB (j := jz) (m := s) (by omega) hs) hW
theorem lp_X7_clears_32 {d n c s b : Nat} {M : JM} {o : JO} {hf : JH} {B : Nat} {m0 : Mem} (hd : 1 ≤ d) (hB : B + 0 < 2147483648) : ∀ (k j : Nat) (m : Mem), j + k = 6 → (MW (B + 0 * j) m0 m) → JV (Ev mtab mcode d) jcX7_clears (55, [(0, .ref b)], []) (n, c, s, mm b (itr (fun jz s => bd_X7_clears_32 jz s) k j m) M) o hf → JV (Ev mtab mcode d) jcX7_clears (32, [(0, .ref b), (1, .int (nI j))], []) (n, c, s, mm b m M) o hf := by
  intro k
  induction k with
  | zero =>
    intro j m hj hW hc
    refine JV.ild (p2 := 33) rfl rfl rfl ?_
    refine JV.stk (len := 2) (sem := (s_push (.int 6))) (p2 := 35) rfl rfl rfl ?_
    refine JV.brT rfl rfl (by exact nI_le (a := 6) (b := j) (by omega) (by omega)) ?_
    exact JV.keep [0] rfl hc
  | succ k ih =>
    intro j m hj hW hc
    obtain ⟨s1, hx⟩ : ∃ s1, bd_X7_clears_32 j m = s1 := ⟨_, rfl⟩
    have hc2 : JV (Ev mtab mcode d) jcX7_clears (55, [(0, .ref b)], []) (n, c, s, mm b (itr (fun jz s => bd_X7_clears_32 jz s) k (j + 1) s1) M) o hf := by
      subst hx
      exact hc
    clear hc
    have iv := fb_X7_clears_32 (B := B) (m0 := m0) hB (j := j) (m := m) (by omega) hW
    rw [hx] at iv
    unfold bd_X7_clears_32 at hx
    refine JV.ild (p2 := 33) rfl rfl rfl ?_
    refine JV.stk (len := 2) (sem := (s_push (.int 6))) (p2 := 35) rfl rfl rfl ?_
    refine JV.brF (p2 := 38) rfl rfl rfl (by exact nI_ge (a := j) (b := 6) (by omega) (by omega)) ?_
    refine JV.ald (p2 := 39) rfl rfl rfl ?_
    refine JV.getf (p2 := 42) rfl mm_M rfl rfl ?_
    refine JV.ild (p2 := 43) rfl rfl rfl ?_
    refine JV.stk (len := 1) (sem := (s_push (.int 1))) (p2 := 44) rfl rfl rfl ?_
    refine JV.insI (p2 := 47) rfl (Nat.le_of_ble_eq_true rfl) rfl rfl (Nat.le_of_ble_eq_true rfl) rfl (ev_X7_standAt (by omega) rfl) rfl ?_
    refine JV.stk (len := 1) (sem := (s_push (.int 0))) (p2 := 48) rfl rfl rfl ?_
    refine JV.iast (p2 := 49) (j := (8 + 2 * j + 1)) rfl mm_1 (sa_at rfl rfl) (by omega) (by decide) (mm_w1 (k := (8 + 2 * j + 1)) rfl) rfl ?_
    refine JV.iinc (p2 := 52) rfl rfl (nI_1 _) rfl rfl ?_
    refine JV.goto rfl ?_
    subst hx
    exact ih (j + 1) _ (by omega) iv hc2
theorem lq_X7_clears_32 {d n c s b : Nat} {M : JM} {o : JO} {hf : JH} {B : Nat} {m0 : Mem} {m : Mem} (hd : 1 ≤ d) (hB : B + 0 < 2147483648) (hW : MW (B + 0 * 0) m0 m) (hc : JV (Ev mtab mcode d) jcX7_clears (55, [(0, .ref b)], []) (n, c, s, mm b (lf_X7_clears_32 6 m) M) o hf) : JV (Ev mtab mcode d) jcX7_clears (32, [(0, .ref b), (1, .int 0)], []) (n, c, s, mm b m M) o hf := by
  rw [lf_X7_clears_32_eq] at hc
  unfold ly_X7_clears_32 at hc
  exact lp_X7_clears_32 (B := B) (m0 := m0) hd hB 6 0 m (by omega) hW hc
noncomputable def bd_X7_clears_57 (j : Nat) (m : Mem) : Mem := (up3 (up3 (up3 (up3 m 1 0 (20 + 5 * j + 1) (-1)) 1 0 (20 + 5 * j + 2) 0) 1 0 (20 + 5 * j + 3) 0) 1 0 (20 + 5 * j + 4) 0)
noncomputable def ly_X7_clears_57 (N : Nat) (m : Mem) : Mem := itr (fun jz s => bd_X7_clears_57 jz s) N 0 m
theorem le_X7_clears_57 : ∃ f, f = ly_X7_clears_57 := ⟨ly_X7_clears_57, rfl⟩
noncomputable def lf_X7_clears_57 := Classical.choose le_X7_clears_57
theorem lf_X7_clears_57_eq : lf_X7_clears_57 = ly_X7_clears_57 := Classical.choose_spec le_X7_clears_57
theorem fb_X7_clears_57 {B : Nat} {m0 : Mem} (hB : B + 0 < 2147483648) {j : Nat} {m : Mem} (hjN : j < 3) (hW : MW (B + 0 * j) m0 m) : (MW (B + 0 * (j + 1)) m0 (bd_X7_clears_57 j m)) := by
  unfold bd_X7_clears_57
  exact (MW.mono (MW.up (MW.up (MW.up (MW.upT hW (by omega) (Or.inl rfl)) (by unfold mok; omega)) (by unfold mok; omega)) (by unfold mok; omega)) (by omega))
theorem fl_X7_clears_57 {B : Nat} {m0 : Mem} (hB : B + 0 < 2147483648) {m : Mem} {N : Nat} (hNl : N = 3) (hW : MW (B + 0 * 0) m0 m) : (MW (B + 0 * N) m0 (lf_X7_clears_57 N m)) := by
  rw [lf_X7_clears_57_eq]
  unfold ly_X7_clears_57
  exact itr_inv (n := N) (s := m) (P := fun jz s => (MW (B + 0 * jz) m0 s)) (fun jz s => bd_X7_clears_57 jz s) (fun jz s hj hs => fb_X7_clears_57 (B := B) (m0 := m0) hB (j := jz) (m := s) (by omega) hs) hW
theorem lp_X7_clears_57 {d n c s b : Nat} {M : JM} {o : JO} {hf : JH} {B : Nat} {m0 : Mem} (hd : 1 ≤ d) (hB : B + 0 < 2147483648) : ∀ (k j : Nat) (m : Mem), j + k = 3 → (MW (B + 0 * j) m0 m) → JV (Ev mtab mcode d) jcX7_clears (112, [(0, .ref b)], []) (n, c, s, mm b (itr (fun jz s => bd_X7_clears_57 jz s) k j m) M) o hf → JV (Ev mtab mcode d) jcX7_clears (57, [(0, .ref b), (1, .int (nI j))], []) (n, c, s, mm b m M) o hf := by
  intro k
  induction k with
  | zero =>
    intro j m hj hW hc
    refine JV.ild (p2 := 58) rfl rfl rfl ?_
    refine JV.stk (len := 1) (sem := (s_push (.int 3))) (p2 := 59) rfl rfl rfl ?_
    refine JV.brT rfl rfl (by exact nI_le (a := 3) (b := j) (by omega) (by omega)) ?_
    exact JV.keep [0] rfl hc
  | succ k ih =>
    intro j m hj hW hc
    obtain ⟨s1, hx⟩ : ∃ s1, bd_X7_clears_57 j m = s1 := ⟨_, rfl⟩
    have hc2 : JV (Ev mtab mcode d) jcX7_clears (112, [(0, .ref b)], []) (n, c, s, mm b (itr (fun jz s => bd_X7_clears_57 jz s) k (j + 1) s1) M) o hf := by
      subst hx
      exact hc
    clear hc
    have iv := fb_X7_clears_57 (B := B) (m0 := m0) hB (j := j) (m := m) (by omega) hW
    rw [hx] at iv
    unfold bd_X7_clears_57 at hx
    refine JV.ild (p2 := 58) rfl rfl rfl ?_
    refine JV.stk (len := 1) (sem := (s_push (.int 3))) (p2 := 59) rfl rfl rfl ?_
    refine JV.brF (p2 := 62) rfl rfl rfl (by exact nI_ge (a := j) (b := 3) (by omega) (by omega)) ?_
    refine JV.ald (p2 := 63) rfl rfl rfl ?_
    refine JV.getf (p2 := 66) rfl mm_M rfl rfl ?_
    refine JV.ild (p2 := 67) rfl rfl rfl ?_
    refine JV.stk (len := 1) (sem := (s_push (.int 1))) (p2 := 68) rfl rfl rfl ?_
    refine JV.insI (p2 := 71) rfl (Nat.le_of_ble_eq_true rfl) rfl rfl (Nat.le_of_ble_eq_true rfl) rfl (ev_X7_tugAt (by omega) rfl) rfl ?_
    refine JV.stk (len := 1) (sem := (s_push (.int (-1)))) (p2 := 72) rfl rfl rfl ?_
    refine JV.iast (p2 := 73) (j := (20 + 5 * j + 1)) rfl mm_1 (ta_at rfl rfl) (by omega) (by decide) (mm_w1 (k := (20 + 5 * j + 1)) rfl) rfl ?_
    refine JV.ald (p2 := 74) rfl rfl rfl ?_
    refine JV.getf (p2 := 77) rfl mm_M rfl rfl ?_
    refine JV.ild (p2 := 78) rfl rfl rfl ?_
    refine JV.stk (len := 1) (sem := (s_push (.int 2))) (p2 := 79) rfl rfl rfl ?_
    refine JV.insI (p2 := 82) rfl (Nat.le_of_ble_eq_true rfl) rfl rfl (Nat.le_of_ble_eq_true rfl) rfl (ev_X7_tugAt (by omega) rfl) rfl ?_
    refine JV.stk (len := 1) (sem := (s_push (.int 0))) (p2 := 83) rfl rfl rfl ?_
    refine JV.iast (p2 := 84) (j := (20 + 5 * j + 2)) rfl mm_1 (ta_at rfl rfl) (by omega) (by decide) (mm_w1 (k := (20 + 5 * j + 2)) rfl) rfl ?_
    refine JV.ald (p2 := 85) rfl rfl rfl ?_
    refine JV.getf (p2 := 88) rfl mm_M rfl rfl ?_
    refine JV.ild (p2 := 89) rfl rfl rfl ?_
    refine JV.stk (len := 1) (sem := (s_push (.int 3))) (p2 := 90) rfl rfl rfl ?_
    refine JV.insI (p2 := 93) rfl (Nat.le_of_ble_eq_true rfl) rfl rfl (Nat.le_of_ble_eq_true rfl) rfl (ev_X7_tugAt (by omega) rfl) rfl ?_
    refine JV.stk (len := 1) (sem := (s_push (.int 0))) (p2 := 94) rfl rfl rfl ?_
    refine JV.iast (p2 := 95) (j := (20 + 5 * j + 3)) rfl mm_1 (ta_at rfl rfl) (by omega) (by decide) (mm_w1 (k := (20 + 5 * j + 3)) rfl) rfl ?_
    refine JV.ald (p2 := 96) rfl rfl rfl ?_
    refine JV.getf (p2 := 99) rfl mm_M rfl rfl ?_
    refine JV.ild (p2 := 100) rfl rfl rfl ?_
    refine JV.stk (len := 1) (sem := (s_push (.int 4))) (p2 := 101) rfl rfl rfl ?_
    refine JV.insI (p2 := 104) rfl (Nat.le_of_ble_eq_true rfl) rfl rfl (Nat.le_of_ble_eq_true rfl) rfl (ev_X7_tugAt (by omega) rfl) rfl ?_
    refine JV.stk (len := 1) (sem := (s_push (.int 0))) (p2 := 105) rfl rfl rfl ?_
    refine JV.iast (p2 := 106) (j := (20 + 5 * j + 4)) rfl mm_1 (ta_at rfl rfl) (by omega) (by decide) (mm_w1 (k := (20 + 5 * j + 4)) rfl) rfl ?_
    refine JV.iinc (p2 := 109) rfl rfl (nI_1 _) rfl rfl ?_
    refine JV.goto rfl ?_
    subst hx
    exact ih (j + 1) _ (by omega) iv hc2
theorem lq_X7_clears_57 {d n c s b : Nat} {M : JM} {o : JO} {hf : JH} {B : Nat} {m0 : Mem} {m : Mem} (hd : 1 ≤ d) (hB : B + 0 < 2147483648) (hW : MW (B + 0 * 0) m0 m) (hc : JV (Ev mtab mcode d) jcX7_clears (112, [(0, .ref b)], []) (n, c, s, mm b (lf_X7_clears_57 3 m) M) o hf) : JV (Ev mtab mcode d) jcX7_clears (57, [(0, .ref b), (1, .int 0)], []) (n, c, s, mm b m M) o hf := by
  rw [lf_X7_clears_57_eq] at hc
  unfold ly_X7_clears_57 at hc
  exact lp_X7_clears_57 (B := B) (m0 := m0) hd hB 3 0 m (by omega) hW hc
noncomputable def bd_X7_clears_115 (j : Nat) (m : Mem) : Mem := (up3 m 1 0 (35 + j) 0)
noncomputable def ly_X7_clears_115 (N : Nat) (m : Mem) : Mem := itr (fun jz s => bd_X7_clears_115 jz s) N 0 m
theorem le_X7_clears_115 : ∃ f, f = ly_X7_clears_115 := ⟨ly_X7_clears_115, rfl⟩
noncomputable def lf_X7_clears_115 := Classical.choose le_X7_clears_115
theorem lf_X7_clears_115_eq : lf_X7_clears_115 = ly_X7_clears_115 := Classical.choose_spec le_X7_clears_115
theorem fb_X7_clears_115 {B : Nat} {m0 : Mem} (hB : B + 0 < 2147483648) {j : Nat} {m : Mem} (hjN : j < 210) (hW : MW (B + 0 * j) m0 m) : (MW (B + 0 * (j + 1)) m0 (bd_X7_clears_115 j m)) := by
  unfold bd_X7_clears_115
  exact (MW.mono (MW.up hW (by unfold mok; omega)) (by omega))
theorem fl_X7_clears_115 {B : Nat} {m0 : Mem} (hB : B + 0 < 2147483648) {m : Mem} {N : Nat} (hNl : N = 210) (hW : MW (B + 0 * 0) m0 m) : (MW (B + 0 * N) m0 (lf_X7_clears_115 N m)) := by
  rw [lf_X7_clears_115_eq]
  unfold ly_X7_clears_115
  exact itr_inv (n := N) (s := m) (P := fun jz s => (MW (B + 0 * jz) m0 s)) (fun jz s => bd_X7_clears_115 jz s) (fun jz s hj hs => fb_X7_clears_115 (B := B) (m0 := m0) hB (j := jz) (m := s) (by omega) hs) hW
theorem lp_X7_clears_115 {d n c s b : Nat} {M : JM} {o : JO} {hf : JH} {B : Nat} {m0 : Mem} (hd : 1 ≤ d) (hB : B + 0 < 2147483648) : ∀ (k j : Nat) (m : Mem), j + k = 210 → (MW (B + 0 * j) m0 m) → JV (Ev mtab mcode d) jcX7_clears (135, [(0, .ref b)], []) (n, c, s, mm b (itr (fun jz s => bd_X7_clears_115 jz s) k j m) M) o hf → JV (Ev mtab mcode d) jcX7_clears (115, [(0, .ref b), (1, .int (nI (35 + j)))], []) (n, c, s, mm b m M) o hf := by
  intro k
  induction k with
  | zero =>
    intro j m hj hW hc
    refine JV.ild (p2 := 116) rfl rfl rfl ?_
    refine JV.stk (len := 3) (sem := (s_push (.int 245))) (p2 := 119) rfl rfl rfl ?_
    refine JV.brT rfl rfl (by exact nI_le (a := 245) (b := 35 + j) (by omega) (by omega)) ?_
    exact JV.keep [0] rfl hc
  | succ k ih =>
    intro j m hj hW hc
    obtain ⟨s1, hx⟩ : ∃ s1, bd_X7_clears_115 j m = s1 := ⟨_, rfl⟩
    have hc2 : JV (Ev mtab mcode d) jcX7_clears (135, [(0, .ref b)], []) (n, c, s, mm b (itr (fun jz s => bd_X7_clears_115 jz s) k (j + 1) s1) M) o hf := by
      subst hx
      exact hc
    clear hc
    have iv := fb_X7_clears_115 (B := B) (m0 := m0) hB (j := j) (m := m) (by omega) hW
    rw [hx] at iv
    unfold bd_X7_clears_115 at hx
    refine JV.ild (p2 := 116) rfl rfl rfl ?_
    refine JV.stk (len := 3) (sem := (s_push (.int 245))) (p2 := 119) rfl rfl rfl ?_
    refine JV.brF (p2 := 122) rfl rfl rfl (by exact nI_ge (a := 35 + j) (b := 245) (by omega) (by omega)) ?_
    refine JV.ald (p2 := 123) rfl rfl rfl ?_
    refine JV.getf (p2 := 126) rfl mm_M rfl rfl ?_
    refine JV.ild (p2 := 127) rfl rfl rfl ?_
    refine JV.stk (len := 1) (sem := (s_push (.int 0))) (p2 := 128) rfl rfl rfl ?_
    refine JV.iast (p2 := 129) (j := (35 + j)) rfl mm_1 rfl (by omega) (by decide) (mm_w1 (k := (35 + j)) rfl) rfl ?_
    refine JV.iinc (p2 := 132) rfl rfl (nI_1 _) rfl rfl ?_
    refine JV.goto rfl ?_
    subst hx
    exact ih (j + 1) _ (by omega) iv hc2
theorem lq_X7_clears_115 {d n c s b : Nat} {M : JM} {o : JO} {hf : JH} {B : Nat} {m0 : Mem} {m : Mem} (hd : 1 ≤ d) (hB : B + 0 < 2147483648) (hW : MW (B + 0 * 0) m0 m) (hc : JV (Ev mtab mcode d) jcX7_clears (135, [(0, .ref b)], []) (n, c, s, mm b (lf_X7_clears_115 210 m) M) o hf) : JV (Ev mtab mcode d) jcX7_clears (115, [(0, .ref b), (1, .int 35)], []) (n, c, s, mm b m M) o hf := by
  rw [lf_X7_clears_115_eq] at hc
  unfold ly_X7_clears_115 at hc
  exact lp_X7_clears_115 (B := B) (m0 := m0) hd hB 210 0 m (by omega) hW hc
noncomputable def y_X7_clears (m : Mem) : Mem := (lf_X7_clears_115 210 (lf_X7_clears_57 3 (lf_X7_clears_32 6 (up3 (up3 (up3 (up3 m 1 0 2 0) 1 0 3 0) 1 0 6 0) 1 0 7 0))))
theorem xe_X7_clears : ∃ f, f = y_X7_clears := ⟨y_X7_clears, rfl⟩
noncomputable def x_X7_clears := Classical.choose xe_X7_clears
theorem x_X7_clears_eq : x_X7_clears = y_X7_clears := Classical.choose_spec xe_X7_clears
theorem ev_X7_clears {d n c s b : Nat} {m : Mem} {M : JM} {B : Nat} {m0 : Mem} {res : Mem} (hd : 2 ≤ d) (hW : MW B m0 m) (hB : B + 0 < 2147483648) (hx : x_X7_clears m = res) : Ev mtab mcode d 101 [.ref b] (n, c, s, mm b m M) (.inl none) (n, c, s, mm b res M) := by
  obtain ⟨d, rfl⟩ : ∃ e, d = e + 1 := ⟨d - 1, by omega⟩
  rw [x_X7_clears_eq] at hx
  unfold y_X7_clears at hx
  refine jv_mk (m := mX7_clears) (cd := jcX7_clears) rfl rfl (Nat.le_of_ble_eq_true rfl) trivial ?_
  refine JV.ald (p2 := 1) rfl rfl rfl ?_
  refine JV.getf (p2 := 4) rfl mm_M rfl rfl ?_
  refine JV.stk (len := 1) (sem := (s_push (.int 2))) (p2 := 5) rfl rfl rfl ?_
  refine JV.stk (len := 1) (sem := (s_push (.int 0))) (p2 := 6) rfl rfl rfl ?_
  refine JV.iast (p2 := 7) (j := 2) rfl mm_1 rfl (by omega) (by decide) (mm_w1 (k := 2) rfl) rfl ?_
  refine JV.ald (p2 := 8) rfl rfl rfl ?_
  refine JV.getf (p2 := 11) rfl mm_M rfl rfl ?_
  refine JV.stk (len := 1) (sem := (s_push (.int 3))) (p2 := 12) rfl rfl rfl ?_
  refine JV.stk (len := 1) (sem := (s_push (.int 0))) (p2 := 13) rfl rfl rfl ?_
  refine JV.iast (p2 := 14) (j := 3) rfl mm_1 rfl (by omega) (by decide) (mm_w1 (k := 3) rfl) rfl ?_
  refine JV.ald (p2 := 15) rfl rfl rfl ?_
  refine JV.getf (p2 := 18) rfl mm_M rfl rfl ?_
  refine JV.stk (len := 2) (sem := (s_push (.int 6))) (p2 := 20) rfl rfl rfl ?_
  refine JV.stk (len := 1) (sem := (s_push (.int 0))) (p2 := 21) rfl rfl rfl ?_
  refine JV.iast (p2 := 22) (j := 6) rfl mm_1 rfl (by omega) (by decide) (mm_w1 (k := 6) rfl) rfl ?_
  refine JV.ald (p2 := 23) rfl rfl rfl ?_
  refine JV.getf (p2 := 26) rfl mm_M rfl rfl ?_
  refine JV.stk (len := 2) (sem := (s_push (.int 7))) (p2 := 28) rfl rfl rfl ?_
  refine JV.stk (len := 1) (sem := (s_push (.int 0))) (p2 := 29) rfl rfl rfl ?_
  refine JV.iast (p2 := 30) (j := 7) rfl mm_1 rfl (by omega) (by decide) (mm_w1 (k := 7) rfl) rfl ?_
  refine JV.stk (len := 1) (sem := (s_push (.int 0))) (p2 := 31) rfl rfl rfl ?_
  refine JV.ist (p2 := 32) rfl rfl rfl ?_
  refine lq_X7_clears_32 (m := (up3 (up3 (up3 (up3 m 1 0 2 0) 1 0 3 0) 1 0 6 0) 1 0 7 0)) (B := B) (m0 := (up3 m 1 0 2 0)) (by omega) (by omega) (MW.mono (MW.upE (MW.up (MW.up (mw_c2 hW) (by unfold mok; omega)) (by unfold mok; omega)) ⟨by decide, by decide⟩) (by omega)) ?_
  refine JV.stk (len := 1) (sem := (s_push (.int 0))) (p2 := 56) rfl rfl rfl ?_
  refine JV.ist (p2 := 57) rfl rfl rfl ?_
  refine lq_X7_clears_57 (m := (lf_X7_clears_32 6 (up3 (up3 (up3 (up3 m 1 0 2 0) 1 0 3 0) 1 0 6 0) 1 0 7 0))) (B := B) (m0 := (up3 m 1 0 2 0)) (by omega) (by omega) (MW.mono (MW.mono (fl_X7_clears_32 (m := (up3 (up3 (up3 (up3 m 1 0 2 0) 1 0 3 0) 1 0 6 0) 1 0 7 0)) (B := B) (m0 := (up3 m 1 0 2 0)) (by omega) (N := 6) rfl (MW.mono (MW.upE (MW.up (MW.up (mw_c2 hW) (by unfold mok; omega)) (by unfold mok; omega)) ⟨by decide, by decide⟩) (by omega))) (B' := B + 0) (by omega)) (by omega)) ?_
  refine JV.stk (len := 2) (sem := (s_push (.int 35))) (p2 := 114) rfl rfl rfl ?_
  refine JV.ist (p2 := 115) rfl rfl rfl ?_
  refine lq_X7_clears_115 (m := (lf_X7_clears_57 3 (lf_X7_clears_32 6 (up3 (up3 (up3 (up3 m 1 0 2 0) 1 0 3 0) 1 0 6 0) 1 0 7 0)))) (B := B) (m0 := (up3 m 1 0 2 0)) (by omega) (by omega) (MW.mono (MW.mono (fl_X7_clears_57 (m := (lf_X7_clears_32 6 (up3 (up3 (up3 (up3 m 1 0 2 0) 1 0 3 0) 1 0 6 0) 1 0 7 0))) (B := B) (m0 := (up3 m 1 0 2 0)) (by omega) (N := 3) rfl (MW.mono (MW.mono (fl_X7_clears_32 (m := (up3 (up3 (up3 (up3 m 1 0 2 0) 1 0 3 0) 1 0 6 0) 1 0 7 0)) (B := B) (m0 := (up3 m 1 0 2 0)) (by omega) (N := 6) rfl (MW.mono (MW.upE (MW.up (MW.up (mw_c2 hW) (by unfold mok; omega)) (by unfold mok; omega)) ⟨by decide, by decide⟩) (by omega))) (B' := B + 0) (by omega)) (by omega))) (B' := B + 0) (by omega)) (by omega)) ?_
  subst hx
  exact JV.ret rfl (fun _ => rfl) rfl rfl
theorem fw_X7_clears {m : Mem} {B : Nat} {m0 : Mem} (hW : MW B m0 m) (hB : B + 0 < 2147483648) : MW (B + 0) (up3 m 1 0 2 0) (x_X7_clears m) := by
  rw [x_X7_clears_eq]
  unfold y_X7_clears
  exact MW.mono (MW.mono (fl_X7_clears_115 (m := (lf_X7_clears_57 3 (lf_X7_clears_32 6 (up3 (up3 (up3 (up3 m 1 0 2 0) 1 0 3 0) 1 0 6 0) 1 0 7 0)))) (B := B) (m0 := (up3 m 1 0 2 0)) (by omega) (N := 210) rfl (MW.mono (MW.mono (fl_X7_clears_57 (m := (lf_X7_clears_32 6 (up3 (up3 (up3 (up3 m 1 0 2 0) 1 0 3 0) 1 0 6 0) 1 0 7 0))) (B := B) (m0 := (up3 m 1 0 2 0)) (by omega) (N := 3) rfl (MW.mono (MW.mono (fl_X7_clears_32 (m := (up3 (up3 (up3 (up3 m 1 0 2 0) 1 0 3 0) 1 0 6 0) 1 0 7 0)) (B := B) (m0 := (up3 m 1 0 2 0)) (by omega) (N := 6) rfl (MW.mono (MW.upE (MW.up (MW.up (mw_c2 hW) (by unfold mok; omega)) (by unfold mok; omega)) ⟨by decide, by decide⟩) (by omega))) (B' := B + 0) (by omega)) (by omega))) (B' := B + 0) (by omega)) (by omega))) (B' := B + 0) (by omega)) (by omega)
noncomputable def bd_X7_begins_16 (w1 : Int32) (w2 : Int32) (j : Nat) (m : Mem) : Mem := (up3 m 1 0 (8 + 2 * j + 0) 2)
noncomputable def ly_X7_begins_16 (w1 : Int32) (w2 : Int32) (N : Nat) (m : Mem) : Mem := itr (fun jz s => bd_X7_begins_16 w1 w2 jz s) N 0 m
theorem le_X7_begins_16 : ∃ f, f = ly_X7_begins_16 := ⟨ly_X7_begins_16, rfl⟩
noncomputable def lf_X7_begins_16 := Classical.choose le_X7_begins_16
theorem lf_X7_begins_16_eq : lf_X7_begins_16 = ly_X7_begins_16 := Classical.choose_spec le_X7_begins_16
theorem fb_X7_begins_16 {B : Nat} {m0 : Mem} {w1 : Int32} {w2 : Int32} (hB : B + 0 < 2147483648) {j : Nat} {m : Mem} (hjN : j < 6) (hW : MW (B + 0 * j) m0 m) : (MW (B + 0 * (j + 1)) m0 (bd_X7_begins_16 w1 w2 j m)) := by
  unfold bd_X7_begins_16
  exact (MW.mono (MW.up hW (by unfold mok; omega)) (by omega))
theorem fl_X7_begins_16 {B : Nat} {m0 : Mem} {w1 : Int32} {w2 : Int32} (hB : B + 0 < 2147483648) {m : Mem} {N : Nat} (hNl : N = 6) (hW : MW (B + 0 * 0) m0 m) : (MW (B + 0 * N) m0 (lf_X7_begins_16 w1 w2 N m)) := by
  rw [lf_X7_begins_16_eq]
  unfold ly_X7_begins_16
  exact itr_inv (n := N) (s := m) (P := fun jz s => (MW (B + 0 * jz) m0 s)) (fun jz s => bd_X7_begins_16 w1 w2 jz s) (fun jz s hj hs => fb_X7_begins_16 (B := B) (m0 := m0) hB (j := jz) (m := s) (by omega) hs) hW
theorem lp_X7_begins_16 {d n c s b : Nat} {M : JM} {o : JO} {hf : JH} {B : Nat} {m0 : Mem} {w1 : Int32} {w2 : Int32} (hd : 2 ≤ d) (hB : B + 0 < 2147483648) : ∀ (k j : Nat) (m : Mem), j + k = 6 → (MW (B + 0 * j) m0 m) → JV (Ev mtab mcode d) jcX7_begins (39, [(0, .ref b), (1, .int w1), (2, .int w2)], []) (n, c, s, mm b (itr (fun jz s => bd_X7_begins_16 w1 w2 jz s) k j m) M) o hf → JV (Ev mtab mcode d) jcX7_begins (16, [(0, .ref b), (1, .int w1), (2, .int w2), (3, .int (nI j))], []) (n, c, s, mm b m M) o hf := by
  intro k
  induction k with
  | zero =>
    intro j m hj hW hc
    refine JV.ild (p2 := 17) rfl rfl rfl ?_
    refine JV.stk (len := 2) (sem := (s_push (.int 6))) (p2 := 19) rfl rfl rfl ?_
    refine JV.brT rfl rfl (by exact nI_le (a := 6) (b := j) (by omega) (by omega)) ?_
    exact JV.keep [0, 1, 2] rfl hc
  | succ k ih =>
    intro j m hj hW hc
    obtain ⟨s1, hx⟩ : ∃ s1, bd_X7_begins_16 w1 w2 j m = s1 := ⟨_, rfl⟩
    have hc2 : JV (Ev mtab mcode d) jcX7_begins (39, [(0, .ref b), (1, .int w1), (2, .int w2)], []) (n, c, s, mm b (itr (fun jz s => bd_X7_begins_16 w1 w2 jz s) k (j + 1) s1) M) o hf := by
      subst hx
      exact hc
    clear hc
    have iv := fb_X7_begins_16 (B := B) (m0 := m0) (w1 := w1) (w2 := w2) hB (j := j) (m := m) (by omega) hW
    rw [hx] at iv
    unfold bd_X7_begins_16 at hx
    refine JV.ild (p2 := 17) rfl rfl rfl ?_
    refine JV.stk (len := 2) (sem := (s_push (.int 6))) (p2 := 19) rfl rfl rfl ?_
    refine JV.brF (p2 := 22) rfl rfl rfl (by exact nI_ge (a := j) (b := 6) (by omega) (by omega)) ?_
    refine JV.ald (p2 := 23) rfl rfl rfl ?_
    refine JV.getf (p2 := 26) rfl mm_M rfl rfl ?_
    refine JV.ild (p2 := 27) rfl rfl rfl ?_
    refine JV.stk (len := 1) (sem := (s_push (.int 0))) (p2 := 28) rfl rfl rfl ?_
    refine JV.insI (p2 := 31) rfl (Nat.le_of_ble_eq_true rfl) rfl rfl (Nat.le_of_ble_eq_true rfl) rfl (ev_X7_standAt (by omega) rfl) rfl ?_
    refine JV.stk (len := 1) (sem := (s_push (.int 2))) (p2 := 32) rfl rfl rfl ?_
    refine JV.iast (p2 := 33) (j := (8 + 2 * j + 0)) rfl mm_1 (sa_at rfl rfl) (by omega) (by decide) (mm_w1 (k := (8 + 2 * j + 0)) rfl) rfl ?_
    refine JV.iinc (p2 := 36) rfl rfl (nI_1 _) rfl rfl ?_
    refine JV.goto rfl ?_
    subst hx
    exact ih (j + 1) _ (by omega) iv hc2
theorem lq_X7_begins_16 {d n c s b : Nat} {M : JM} {o : JO} {hf : JH} {B : Nat} {m0 : Mem} {w1 : Int32} {w2 : Int32} {m : Mem} (hd : 2 ≤ d) (hB : B + 0 < 2147483648) (hW : MW (B + 0 * 0) m0 m) (hc : JV (Ev mtab mcode d) jcX7_begins (39, [(0, .ref b), (1, .int w1), (2, .int w2)], []) (n, c, s, mm b (lf_X7_begins_16 w1 w2 6 m) M) o hf) : JV (Ev mtab mcode d) jcX7_begins (16, [(0, .ref b), (1, .int w1), (2, .int w2), (3, .int 0)], []) (n, c, s, mm b m M) o hf := by
  rw [lf_X7_begins_16_eq] at hc
  unfold ly_X7_begins_16 at hc
  exact lp_X7_begins_16 (B := B) (m0 := m0) hd hB 6 0 m (by omega) hW hc
noncomputable def bd_X7_begins_41 (w1 : Int32) (w2 : Int32) (j : Nat) (m : Mem) : Mem := (up3 m 1 0 (20 + 5 * j + 0) 3)
noncomputable def ly_X7_begins_41 (w1 : Int32) (w2 : Int32) (N : Nat) (m : Mem) : Mem := itr (fun jz s => bd_X7_begins_41 w1 w2 jz s) N 0 m
theorem le_X7_begins_41 : ∃ f, f = ly_X7_begins_41 := ⟨ly_X7_begins_41, rfl⟩
noncomputable def lf_X7_begins_41 := Classical.choose le_X7_begins_41
theorem lf_X7_begins_41_eq : lf_X7_begins_41 = ly_X7_begins_41 := Classical.choose_spec le_X7_begins_41
theorem fb_X7_begins_41 {B : Nat} {m0 : Mem} {w1 : Int32} {w2 : Int32} (hB : B + 0 < 2147483648) {j : Nat} {m : Mem} (hjN : j < 3) (hW : MW (B + 0 * j) m0 m) : (MW (B + 0 * (j + 1)) m0 (bd_X7_begins_41 w1 w2 j m)) := by
  unfold bd_X7_begins_41
  exact (MW.mono (MW.up hW (by unfold mok; omega)) (by omega))
theorem fl_X7_begins_41 {B : Nat} {m0 : Mem} {w1 : Int32} {w2 : Int32} (hB : B + 0 < 2147483648) {m : Mem} {N : Nat} (hNl : N = 3) (hW : MW (B + 0 * 0) m0 m) : (MW (B + 0 * N) m0 (lf_X7_begins_41 w1 w2 N m)) := by
  rw [lf_X7_begins_41_eq]
  unfold ly_X7_begins_41
  exact itr_inv (n := N) (s := m) (P := fun jz s => (MW (B + 0 * jz) m0 s)) (fun jz s => bd_X7_begins_41 w1 w2 jz s) (fun jz s hj hs => fb_X7_begins_41 (B := B) (m0 := m0) hB (j := jz) (m := s) (by omega) hs) hW
theorem lp_X7_begins_41 {d n c s b : Nat} {M : JM} {o : JO} {hf : JH} {B : Nat} {m0 : Mem} {w1 : Int32} {w2 : Int32} (hd : 2 ≤ d) (hB : B + 0 < 2147483648) : ∀ (k j : Nat) (m : Mem), j + k = 3 → (MW (B + 0 * j) m0 m) → JV (Ev mtab mcode d) jcX7_begins (63, [(0, .ref b), (1, .int w1), (2, .int w2)], []) (n, c, s, mm b (itr (fun jz s => bd_X7_begins_41 w1 w2 jz s) k j m) M) o hf → JV (Ev mtab mcode d) jcX7_begins (41, [(0, .ref b), (1, .int w1), (2, .int w2), (3, .int (nI j))], []) (n, c, s, mm b m M) o hf := by
  intro k
  induction k with
  | zero =>
    intro j m hj hW hc
    refine JV.ild (p2 := 42) rfl rfl rfl ?_
    refine JV.stk (len := 1) (sem := (s_push (.int 3))) (p2 := 43) rfl rfl rfl ?_
    refine JV.brT rfl rfl (by exact nI_le (a := 3) (b := j) (by omega) (by omega)) ?_
    exact JV.keep [0, 1, 2] rfl hc
  | succ k ih =>
    intro j m hj hW hc
    obtain ⟨s1, hx⟩ : ∃ s1, bd_X7_begins_41 w1 w2 j m = s1 := ⟨_, rfl⟩
    have hc2 : JV (Ev mtab mcode d) jcX7_begins (63, [(0, .ref b), (1, .int w1), (2, .int w2)], []) (n, c, s, mm b (itr (fun jz s => bd_X7_begins_41 w1 w2 jz s) k (j + 1) s1) M) o hf := by
      subst hx
      exact hc
    clear hc
    have iv := fb_X7_begins_41 (B := B) (m0 := m0) (w1 := w1) (w2 := w2) hB (j := j) (m := m) (by omega) hW
    rw [hx] at iv
    unfold bd_X7_begins_41 at hx
    refine JV.ild (p2 := 42) rfl rfl rfl ?_
    refine JV.stk (len := 1) (sem := (s_push (.int 3))) (p2 := 43) rfl rfl rfl ?_
    refine JV.brF (p2 := 46) rfl rfl rfl (by exact nI_ge (a := j) (b := 3) (by omega) (by omega)) ?_
    refine JV.ald (p2 := 47) rfl rfl rfl ?_
    refine JV.getf (p2 := 50) rfl mm_M rfl rfl ?_
    refine JV.ild (p2 := 51) rfl rfl rfl ?_
    refine JV.stk (len := 1) (sem := (s_push (.int 0))) (p2 := 52) rfl rfl rfl ?_
    refine JV.insI (p2 := 55) rfl (Nat.le_of_ble_eq_true rfl) rfl rfl (Nat.le_of_ble_eq_true rfl) rfl (ev_X7_tugAt (by omega) rfl) rfl ?_
    refine JV.stk (len := 1) (sem := (s_push (.int 3))) (p2 := 56) rfl rfl rfl ?_
    refine JV.iast (p2 := 57) (j := (20 + 5 * j + 0)) rfl mm_1 (ta_at rfl rfl) (by omega) (by decide) (mm_w1 (k := (20 + 5 * j + 0)) rfl) rfl ?_
    refine JV.iinc (p2 := 60) rfl rfl (nI_1 _) rfl rfl ?_
    refine JV.goto rfl ?_
    subst hx
    exact ih (j + 1) _ (by omega) iv hc2
theorem lq_X7_begins_41 {d n c s b : Nat} {M : JM} {o : JO} {hf : JH} {B : Nat} {m0 : Mem} {w1 : Int32} {w2 : Int32} {m : Mem} (hd : 2 ≤ d) (hB : B + 0 < 2147483648) (hW : MW (B + 0 * 0) m0 m) (hc : JV (Ev mtab mcode d) jcX7_begins (63, [(0, .ref b), (1, .int w1), (2, .int w2)], []) (n, c, s, mm b (lf_X7_begins_41 w1 w2 3 m) M) o hf) : JV (Ev mtab mcode d) jcX7_begins (41, [(0, .ref b), (1, .int w1), (2, .int w2), (3, .int 0)], []) (n, c, s, mm b m M) o hf := by
  rw [lf_X7_begins_41_eq] at hc
  unfold ly_X7_begins_41 at hc
  exact lp_X7_begins_41 (B := B) (m0 := m0) hd hB 3 0 m (by omega) hW hc
noncomputable def y_X7_begins (m : Mem) (p1 : Int32) (p2 : Int32) : Mem := (x_X7_clears (lf_X7_begins_41 p1 p2 3 (lf_X7_begins_16 p1 p2 6 (up3 (up3 m 1 0 0 p1) 1 0 1 p2))))
theorem xe_X7_begins : ∃ f, f = y_X7_begins := ⟨y_X7_begins, rfl⟩
noncomputable def x_X7_begins := Classical.choose xe_X7_begins
theorem x_X7_begins_eq : x_X7_begins = y_X7_begins := Classical.choose_spec xe_X7_begins
theorem ev_X7_begins {d n c s b : Nat} {m : Mem} {M : JM} {p1 : Int32} {p2 : Int32} {B : Nat} {m0 : Mem} {res : Mem} (hd : 3 ≤ d) (hW : MW B m0 m) (hB : B + 0 < 2147483648) (hv1 : VN 6 p1) (hv2 : VN 3 p2) (hx : x_X7_begins m p1 p2 = res) : Ev mtab mcode d 102 [.ref b, .int p1, .int p2] (n, c, s, mm b m M) (.inl none) (n, c, s, mm b res M) := by
  obtain ⟨d, rfl⟩ : ∃ e, d = e + 1 := ⟨d - 1, by omega⟩
  rw [x_X7_begins_eq] at hx
  unfold y_X7_begins at hx
  refine jv_mk (m := mX7_begins) (cd := jcX7_begins) rfl rfl (Nat.le_of_ble_eq_true rfl) trivial ?_
  refine JV.ald (p2 := 1) rfl rfl rfl ?_
  refine JV.getf (p2 := 4) rfl mm_M rfl rfl ?_
  refine JV.stk (len := 1) (sem := (s_push (.int 0))) (p2 := 5) rfl rfl rfl ?_
  refine JV.ild (p2 := 6) rfl rfl rfl ?_
  refine JV.iast (p2 := 7) (j := 0) rfl mm_1 rfl (by omega) (by decide) (mm_w1 (k := 0) rfl) rfl ?_
  refine JV.ald (p2 := 8) rfl rfl rfl ?_
  refine JV.getf (p2 := 11) rfl mm_M rfl rfl ?_
  refine JV.stk (len := 1) (sem := (s_push (.int 1))) (p2 := 12) rfl rfl rfl ?_
  refine JV.ild (p2 := 13) rfl rfl rfl ?_
  refine JV.iast (p2 := 14) (j := 1) rfl mm_1 rfl (by omega) (by decide) (mm_w1 (k := 1) rfl) rfl ?_
  refine JV.stk (len := 1) (sem := (s_push (.int 0))) (p2 := 15) rfl rfl rfl ?_
  refine JV.ist (p2 := 16) rfl rfl rfl ?_
  refine lq_X7_begins_16 (m := (up3 (up3 m 1 0 0 p1) 1 0 1 p2)) (w1 := p1) (w2 := p2) (B := B) (m0 := (up3 (up3 m 1 0 0 p1) 1 0 1 p2)) (by omega) (by omega) (MW.mono (mw_cnt hW hv1 hv2) (by omega)) ?_
  refine JV.stk (len := 1) (sem := (s_push (.int 0))) (p2 := 40) rfl rfl rfl ?_
  refine JV.ist (p2 := 41) rfl rfl rfl ?_
  refine lq_X7_begins_41 (m := (lf_X7_begins_16 p1 p2 6 (up3 (up3 m 1 0 0 p1) 1 0 1 p2))) (w1 := p1) (w2 := p2) (B := B) (m0 := (up3 (up3 m 1 0 0 p1) 1 0 1 p2)) (by omega) (by omega) (MW.mono (MW.mono (fl_X7_begins_16 (m := (up3 (up3 m 1 0 0 p1) 1 0 1 p2)) (w1 := p1) (w2 := p2) (B := B) (m0 := (up3 (up3 m 1 0 0 p1) 1 0 1 p2)) (by omega) (N := 6) rfl (MW.mono (mw_cnt hW hv1 hv2) (by omega))) (B' := B + 0) (by omega)) (by omega)) ?_
  refine JV.ald (p2 := 64) rfl rfl rfl ?_
  refine JV.inv0 (p2 := 67) rfl rfl rfl mm_M (Nat.le_of_ble_eq_true rfl) rfl (ev_X7_clears (by omega) (MW.mono (fl_X7_begins_41 (m := (lf_X7_begins_16 p1 p2 6 (up3 (up3 m 1 0 0 p1) 1 0 1 p2))) (w1 := p1) (w2 := p2) (B := B) (m0 := (up3 (up3 m 1 0 0 p1) 1 0 1 p2)) (by omega) (N := 3) rfl (MW.mono (MW.mono (fl_X7_begins_16 (m := (up3 (up3 m 1 0 0 p1) 1 0 1 p2)) (w1 := p1) (w2 := p2) (B := B) (m0 := (up3 (up3 m 1 0 0 p1) 1 0 1 p2)) (by omega) (N := 6) rfl (MW.mono (mw_cnt hW hv1 hv2) (by omega))) (B' := B + 0) (by omega)) (by omega))) (B' := B + 0) (by omega)) (by omega) rfl) ?_
  subst hx
  exact JV.ret rfl (fun _ => rfl) rfl rfl
