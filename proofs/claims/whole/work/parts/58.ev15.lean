theorem nI_divE {x y : Int32} {a b : Nat} (hx : x = nI a) (hy : y = nI b) (ha : a < 2147483648) (h0 : 0 < b) (hb : b < 2147483648) : x / y = nI (a / b) := by rw [hx, hy, pk_div ha h0 hb]
noncomputable def bd_X7_digest_17 (m : Mem) (j : Nat) (c1 : Int64) : Int64 := ((31 * c1) + ((x_X7_valueOf m j)).toInt64)
noncomputable def ly_X7_digest_17 (m : Mem) (N : Nat) (c1 : Int64) : Int64 := itr (fun jz s => bd_X7_digest_17 m jz s) N 0 c1
theorem le_X7_digest_17 : ∃ f, f = ly_X7_digest_17 := ⟨ly_X7_digest_17, rfl⟩
noncomputable def lf_X7_digest_17 := Classical.choose le_X7_digest_17
theorem lf_X7_digest_17_eq : lf_X7_digest_17 = ly_X7_digest_17 := Classical.choose_spec le_X7_digest_17
theorem lp_X7_digest_17 {d n c s b : Nat} {M : JM} {o : JO} {hf : JH} {m : Mem} (hd : 9 ≤ d) (hF : MK m) : ∀ (k j : Nat) (c1 : Int64), j + k = 16 → JV (Ev mtab mcode d) jcX7_digest (42, [(0, .ref b), (1, .long (itr (fun jz s => bd_X7_digest_17 m jz s) k j c1))], []) (n, c, s, mm b m M) o hf → JV (Ev mtab mcode d) jcX7_digest (17, [(0, .ref b), (1, .long c1), (3, .int (nI j))], []) (n, c, s, mm b m M) o hf := by
  intro k
  induction k with
  | zero =>
    intro j c1 hj hc
    refine JV.ild (p2 := 18) rfl rfl rfl ?_
    refine JV.stk (len := 2) (sem := (s_push (.int 16))) (p2 := 20) rfl rfl rfl ?_
    refine JV.brT rfl rfl (by exact nI_le (a := 16) (b := j) (by omega) (by omega)) ?_
    exact JV.keep [0, 1] rfl hc
  | succ k ih =>
    intro j c1 hj hc
    obtain ⟨s1, hx⟩ : ∃ s1, bd_X7_digest_17 m j c1 = s1 := ⟨_, rfl⟩
    have hc2 : JV (Ev mtab mcode d) jcX7_digest (42, [(0, .ref b), (1, .long (itr (fun jz s => bd_X7_digest_17 m jz s) k (j + 1) s1))], []) (n, c, s, mm b m M) o hf := by
      subst hx
      exact hc
    clear hc
    unfold bd_X7_digest_17 at hx
    refine JV.ild (p2 := 18) rfl rfl rfl ?_
    refine JV.stk (len := 2) (sem := (s_push (.int 16))) (p2 := 20) rfl rfl rfl ?_
    refine JV.brF (p2 := 23) rfl rfl rfl (by exact nI_ge (a := j) (b := 16) (by omega) (by omega)) ?_
    refine JV.ldc2 (p2 := 26) rfl rfl ?_
    refine JV.lld (p2 := 27) rfl rfl rfl ?_
    refine JV.stk (len := 1) (sem := s_lmul) (p2 := 28) rfl rfl rfl ?_
    refine JV.ald (p2 := 29) rfl rfl rfl ?_
    refine JV.ild (p2 := 30) rfl rfl rfl ?_
    refine JV.invI (p2 := 33) rfl rfl rfl mm_M (Nat.le_of_ble_eq_true rfl) rfl (ev_X7_valueOf (w := j) (by omega) rfl hF (by omega) rfl) ?_
    refine JV.stk (len := 1) (sem := s_i2l) (p2 := 34) rfl rfl rfl ?_
    refine JV.stk (len := 1) (sem := s_ladd) (p2 := 35) rfl rfl rfl ?_
    refine JV.lst (p2 := 36) rfl rfl rfl ?_
    refine JV.iinc (p2 := 39) rfl rfl (nI_1 _) rfl rfl ?_
    refine JV.goto rfl ?_
    subst hx
    exact ih (j + 1) _ (by omega) hc2
theorem lq_X7_digest_17 {d n c s b : Nat} {M : JM} {o : JO} {hf : JH} {m : Mem} {c1 : Int64} (hd : 9 ≤ d) (hF : MK m)  (hc : JV (Ev mtab mcode d) jcX7_digest (42, [(0, .ref b), (1, .long (lf_X7_digest_17 m 16 c1))], []) (n, c, s, mm b m M) o hf) : JV (Ev mtab mcode d) jcX7_digest (17, [(0, .ref b), (1, .long c1), (3, .int 0)], []) (n, c, s, mm b m M) o hf := by
  rw [lf_X7_digest_17_eq] at hc
  unfold ly_X7_digest_17 at hc
  exact lp_X7_digest_17 hd hF 16 0 c1 (by omega) hc
noncomputable def bd_X7_digest_44 (m : Mem) (j : Nat) (c1 : Int64) : Int64 := ((31 * c1) + ((x_X7_standOf m (j / 4) ((nI j) - (nI j) / 4 * 4))).toInt64)
noncomputable def ly_X7_digest_44 (m : Mem) (N : Nat) (c1 : Int64) : Int64 := itr (fun jz s => bd_X7_digest_44 m jz s) N 0 c1
theorem le_X7_digest_44 : ∃ f, f = ly_X7_digest_44 := ⟨ly_X7_digest_44, rfl⟩
noncomputable def lf_X7_digest_44 := Classical.choose le_X7_digest_44
theorem lf_X7_digest_44_eq : lf_X7_digest_44 = ly_X7_digest_44 := Classical.choose_spec le_X7_digest_44
theorem lp_X7_digest_44 {d n c s b : Nat} {M : JM} {o : JO} {hf : JH} {m : Mem} {N : Nat} (hd : 9 ≤ d) (hF : MK m) (hNc : N ≤ 24) (hN : 4 * m 1 0 0 = nI N) : ∀ (k j : Nat) (c1 : Int64), j + k = N → JV (Ev mtab mcode d) jcX7_digest (80, [(0, .ref b), (1, .long (itr (fun jz s => bd_X7_digest_44 m jz s) k j c1))], []) (n, c, s, mm b m M) o hf → JV (Ev mtab mcode d) jcX7_digest (44, [(0, .ref b), (1, .long c1), (3, .int (nI j))], []) (n, c, s, mm b m M) o hf := by
  intro k
  induction k with
  | zero =>
    intro j c1 hj hc
    refine JV.ild (p2 := 45) rfl rfl rfl ?_
    refine JV.stk (len := 1) (sem := (s_push (.int 4))) (p2 := 46) rfl rfl rfl ?_
    refine JV.ald (p2 := 47) rfl rfl rfl ?_
    refine JV.getf (p2 := 50) rfl mm_M rfl rfl ?_
    refine JV.stk (len := 1) (sem := (s_push (.int 0))) (p2 := 51) rfl rfl rfl ?_
    refine JV.iald (p2 := 52) (j := 0) rfl mm_1 rfl (by omega) (by decide) rfl ?_
    refine JV.stk (len := 1) (sem := s_imul) (p2 := 53) rfl rfl rfl ?_
    refine JV.brT rfl rfl (by rw [hN]; exact nI_le (a := N) (b := j) (by omega) (by omega)) ?_
    exact JV.keep [0, 1] rfl hc
  | succ k ih =>
    intro j c1 hj hc
    obtain ⟨s1, hx⟩ : ∃ s1, bd_X7_digest_44 m j c1 = s1 := ⟨_, rfl⟩
    have hc2 : JV (Ev mtab mcode d) jcX7_digest (80, [(0, .ref b), (1, .long (itr (fun jz s => bd_X7_digest_44 m jz s) k (j + 1) s1))], []) (n, c, s, mm b m M) o hf := by
      subst hx
      exact hc
    clear hc
    unfold bd_X7_digest_44 at hx
    refine JV.ild (p2 := 45) rfl rfl rfl ?_
    refine JV.stk (len := 1) (sem := (s_push (.int 4))) (p2 := 46) rfl rfl rfl ?_
    refine JV.ald (p2 := 47) rfl rfl rfl ?_
    refine JV.getf (p2 := 50) rfl mm_M rfl rfl ?_
    refine JV.stk (len := 1) (sem := (s_push (.int 0))) (p2 := 51) rfl rfl rfl ?_
    refine JV.iald (p2 := 52) (j := 0) rfl mm_1 rfl (by omega) (by decide) rfl ?_
    refine JV.stk (len := 1) (sem := s_imul) (p2 := 53) rfl rfl rfl ?_
    refine JV.brF (p2 := 56) rfl rfl rfl (by rw [hN]; exact nI_ge (a := j) (b := N) (by omega) (by omega)) ?_
    refine JV.ldc2 (p2 := 59) rfl rfl ?_
    refine JV.lld (p2 := 60) rfl rfl rfl ?_
    refine JV.stk (len := 1) (sem := s_lmul) (p2 := 61) rfl rfl rfl ?_
    refine JV.ald (p2 := 62) rfl rfl rfl ?_
    refine JV.ild (p2 := 63) rfl rfl rfl ?_
    refine JV.stk (len := 1) (sem := (s_push (.int 4))) (p2 := 64) rfl rfl rfl ?_
    refine JV.stk (len := 1) (sem := s_idiv) (p2 := 65) rfl rfl rfl ?_
    refine JV.ild (p2 := 66) rfl rfl rfl ?_
    refine JV.stk (len := 1) (sem := (s_push (.int 4))) (p2 := 67) rfl rfl rfl ?_
    refine JV.stk (len := 1) (sem := s_irem) (p2 := 68) rfl rfl rfl ?_
    refine JV.invI (p2 := 71) rfl rfl rfl mm_M (Nat.le_of_ble_eq_true rfl) rfl (ev_X7_standOf (q := (j / 4)) (by omega) (nI_divE rfl rfl (by omega) (by omega) (by omega)) hF (by omega) rfl) ?_
    refine JV.stk (len := 1) (sem := s_i2l) (p2 := 72) rfl rfl rfl ?_
    refine JV.stk (len := 1) (sem := s_ladd) (p2 := 73) rfl rfl rfl ?_
    refine JV.lst (p2 := 74) rfl rfl rfl ?_
    refine JV.iinc (p2 := 77) rfl rfl (nI_1 _) rfl rfl ?_
    refine JV.goto rfl ?_
    subst hx
    exact ih (j + 1) _ (by omega) hc2
theorem lq_X7_digest_44 {d n c s b : Nat} {M : JM} {o : JO} {hf : JH} {m : Mem} {N : Nat} {c1 : Int64} (hd : 9 ≤ d) (hF : MK m) (hNc : N ≤ 24) (hN : 4 * m 1 0 0 = nI N)  (hc : JV (Ev mtab mcode d) jcX7_digest (80, [(0, .ref b), (1, .long (lf_X7_digest_44 m N c1))], []) (n, c, s, mm b m M) o hf) : JV (Ev mtab mcode d) jcX7_digest (44, [(0, .ref b), (1, .long c1), (3, .int 0)], []) (n, c, s, mm b m M) o hf := by
  rw [lf_X7_digest_44_eq] at hc
  unfold ly_X7_digest_44 at hc
  exact lp_X7_digest_44 hd hF hNc hN N 0 c1 (by omega) hc
noncomputable def bd_X7_digest_82 (m : Mem) (j : Nat) (c1 : Int64) : Int64 := ((31 * c1) + ((m 1 0 (20 + j))).toInt64)
noncomputable def ly_X7_digest_82 (m : Mem) (N : Nat) (c1 : Int64) : Int64 := itr (fun jz s => bd_X7_digest_82 m jz s) N 0 c1
theorem le_X7_digest_82 : ∃ f, f = ly_X7_digest_82 := ⟨ly_X7_digest_82, rfl⟩
noncomputable def lf_X7_digest_82 := Classical.choose le_X7_digest_82
theorem lf_X7_digest_82_eq : lf_X7_digest_82 = ly_X7_digest_82 := Classical.choose_spec le_X7_digest_82
theorem lp_X7_digest_82 {d n c s b : Nat} {M : JM} {o : JO} {hf : JH} {m : Mem} {N : Nat} (hd : 9 ≤ d) (hF : MK m) (hNc : N ≤ 15) (hN : 5 * m 1 0 1 = nI N) : ∀ (k j : Nat) (c1 : Int64), j + k = N → JV (Ev mtab mcode d) jcX7_digest (117, [(0, .ref b), (1, .long (itr (fun jz s => bd_X7_digest_82 m jz s) k j c1))], []) (n, c, s, mm b m M) o hf → JV (Ev mtab mcode d) jcX7_digest (82, [(0, .ref b), (1, .long c1), (3, .int (nI j))], []) (n, c, s, mm b m M) o hf := by
  intro k
  induction k with
  | zero =>
    intro j c1 hj hc
    refine JV.ild (p2 := 83) rfl rfl rfl ?_
    refine JV.stk (len := 1) (sem := (s_push (.int 5))) (p2 := 84) rfl rfl rfl ?_
    refine JV.ald (p2 := 85) rfl rfl rfl ?_
    refine JV.getf (p2 := 88) rfl mm_M rfl rfl ?_
    refine JV.stk (len := 1) (sem := (s_push (.int 1))) (p2 := 89) rfl rfl rfl ?_
    refine JV.iald (p2 := 90) (j := 1) rfl mm_1 rfl (by omega) (by decide) rfl ?_
    refine JV.stk (len := 1) (sem := s_imul) (p2 := 91) rfl rfl rfl ?_
    refine JV.brT rfl rfl (by rw [hN]; exact nI_le (a := N) (b := j) (by omega) (by omega)) ?_
    exact JV.keep [0, 1] rfl hc
  | succ k ih =>
    intro j c1 hj hc
    obtain ⟨s1, hx⟩ : ∃ s1, bd_X7_digest_82 m j c1 = s1 := ⟨_, rfl⟩
    have hc2 : JV (Ev mtab mcode d) jcX7_digest (117, [(0, .ref b), (1, .long (itr (fun jz s => bd_X7_digest_82 m jz s) k (j + 1) s1))], []) (n, c, s, mm b m M) o hf := by
      subst hx
      exact hc
    clear hc
    unfold bd_X7_digest_82 at hx
    refine JV.ild (p2 := 83) rfl rfl rfl ?_
    refine JV.stk (len := 1) (sem := (s_push (.int 5))) (p2 := 84) rfl rfl rfl ?_
    refine JV.ald (p2 := 85) rfl rfl rfl ?_
    refine JV.getf (p2 := 88) rfl mm_M rfl rfl ?_
    refine JV.stk (len := 1) (sem := (s_push (.int 1))) (p2 := 89) rfl rfl rfl ?_
    refine JV.iald (p2 := 90) (j := 1) rfl mm_1 rfl (by omega) (by decide) rfl ?_
    refine JV.stk (len := 1) (sem := s_imul) (p2 := 91) rfl rfl rfl ?_
    refine JV.brF (p2 := 94) rfl rfl rfl (by rw [hN]; exact nI_ge (a := j) (b := N) (by omega) (by omega)) ?_
    refine JV.ldc2 (p2 := 97) rfl rfl ?_
    refine JV.lld (p2 := 98) rfl rfl rfl ?_
    refine JV.stk (len := 1) (sem := s_lmul) (p2 := 99) rfl rfl rfl ?_
    refine JV.ald (p2 := 100) rfl rfl rfl ?_
    refine JV.getf (p2 := 103) rfl mm_M rfl rfl ?_
    refine JV.stk (len := 2) (sem := (s_push (.int 20))) (p2 := 105) rfl rfl rfl ?_
    refine JV.ild (p2 := 106) rfl rfl rfl ?_
    refine JV.stk (len := 1) (sem := s_iadd) (p2 := 107) rfl rfl rfl ?_
    refine JV.iald (p2 := 108) (j := (20 + j)) rfl mm_1 (nI_addE rfl rfl) (by omega) (by decide) rfl ?_
    refine JV.stk (len := 1) (sem := s_i2l) (p2 := 109) rfl rfl rfl ?_
    refine JV.stk (len := 1) (sem := s_ladd) (p2 := 110) rfl rfl rfl ?_
    refine JV.lst (p2 := 111) rfl rfl rfl ?_
    refine JV.iinc (p2 := 114) rfl rfl (nI_1 _) rfl rfl ?_
    refine JV.goto rfl ?_
    subst hx
    exact ih (j + 1) _ (by omega) hc2
theorem lq_X7_digest_82 {d n c s b : Nat} {M : JM} {o : JO} {hf : JH} {m : Mem} {N : Nat} {c1 : Int64} (hd : 9 ≤ d) (hF : MK m) (hNc : N ≤ 15) (hN : 5 * m 1 0 1 = nI N)  (hc : JV (Ev mtab mcode d) jcX7_digest (117, [(0, .ref b), (1, .long (lf_X7_digest_82 m N c1))], []) (n, c, s, mm b m M) o hf) : JV (Ev mtab mcode d) jcX7_digest (82, [(0, .ref b), (1, .long c1), (3, .int 0)], []) (n, c, s, mm b m M) o hf := by
  rw [lf_X7_digest_82_eq] at hc
  unfold ly_X7_digest_82 at hc
  exact lp_X7_digest_82 hd hF hNc hN N 0 c1 (by omega) hc
noncomputable def bd_X7_digest_132 (m : Mem) (j : Nat) (jj : Nat) (c1 : Int64) : Int64 := ((31 * c1) + ((x_X7_of m j jj)).toInt64)
noncomputable def ly_X7_digest_132 (m : Mem) (j : Nat) (N : Nat) (c1 : Int64) : Int64 := itr (fun jz s => bd_X7_digest_132 m j jz s) N 0 c1
theorem le_X7_digest_132 : ∃ f, f = ly_X7_digest_132 := ⟨ly_X7_digest_132, rfl⟩
noncomputable def lf_X7_digest_132 := Classical.choose le_X7_digest_132
theorem lf_X7_digest_132_eq : lf_X7_digest_132 = ly_X7_digest_132 := Classical.choose_spec le_X7_digest_132
theorem lp_X7_digest_132 {d n c s b : Nat} {M : JM} {o : JO} {hf : JH} {m : Mem} {j : Nat} (hd : 9 ≤ d) (hF : MK m) (hq : j < 12) : ∀ (k jj : Nat) (c1 : Int64), jj + k = 10 → JV (Ev mtab mcode d) jcX7_digest (160, [(0, .ref b), (1, .long (itr (fun jz s => bd_X7_digest_132 m j jz s) k jj c1)), (3, .int (nI j))], []) (n, c, s, mm b m M) o hf → JV (Ev mtab mcode d) jcX7_digest (132, [(0, .ref b), (1, .long c1), (3, .int (nI j)), (4, .int (nI jj))], []) (n, c, s, mm b m M) o hf := by
  intro k
  induction k with
  | zero =>
    intro jj c1 hj hc
    refine JV.ild (p2 := 134) rfl rfl rfl ?_
    refine JV.stk (len := 2) (sem := (s_push (.int 10))) (p2 := 136) rfl rfl rfl ?_
    refine JV.brT rfl rfl (by exact nI_le (a := 10) (b := jj) (by omega) (by omega)) ?_
    exact JV.keep [0, 1, 3] rfl hc
  | succ k ih =>
    intro jj c1 hj hc
    obtain ⟨s1, hx⟩ : ∃ s1, bd_X7_digest_132 m j jj c1 = s1 := ⟨_, rfl⟩
    have hc2 : JV (Ev mtab mcode d) jcX7_digest (160, [(0, .ref b), (1, .long (itr (fun jz s => bd_X7_digest_132 m j jz s) k (jj + 1) s1)), (3, .int (nI j))], []) (n, c, s, mm b m M) o hf := by
      subst hx
      exact hc
    clear hc
    unfold bd_X7_digest_132 at hx
    refine JV.ild (p2 := 134) rfl rfl rfl ?_
    refine JV.stk (len := 2) (sem := (s_push (.int 10))) (p2 := 136) rfl rfl rfl ?_
    refine JV.brF (p2 := 139) rfl rfl rfl (by exact nI_ge (a := jj) (b := 10) (by omega) (by omega)) ?_
    refine JV.ldc2 (p2 := 142) rfl rfl ?_
    refine JV.lld (p2 := 143) rfl rfl rfl ?_
    refine JV.stk (len := 1) (sem := s_lmul) (p2 := 144) rfl rfl rfl ?_
    refine JV.ald (p2 := 145) rfl rfl rfl ?_
    refine JV.ild (p2 := 146) rfl rfl rfl ?_
    refine JV.ild (p2 := 148) rfl rfl rfl ?_
    refine JV.invI (p2 := 151) rfl rfl rfl mm_M (Nat.le_of_ble_eq_true rfl) rfl (ev_X7_of (q := j) (w := jj) (by omega) rfl rfl (by omega) (by omega) rfl) ?_
    refine JV.stk (len := 1) (sem := s_i2l) (p2 := 152) rfl rfl rfl ?_
    refine JV.stk (len := 1) (sem := s_ladd) (p2 := 153) rfl rfl rfl ?_
    refine JV.lst (p2 := 154) rfl rfl rfl ?_
    refine JV.iinc (p2 := 157) rfl rfl (nI_1 _) rfl rfl ?_
    refine JV.goto rfl ?_
    subst hx
    exact ih (jj + 1) _ (by omega) hc2
theorem lq_X7_digest_132 {d n c s b : Nat} {M : JM} {o : JO} {hf : JH} {m : Mem} {j : Nat} {c1 : Int64} (hd : 9 ≤ d) (hF : MK m) (hq : j < 12)  (hc : JV (Ev mtab mcode d) jcX7_digest (160, [(0, .ref b), (1, .long (lf_X7_digest_132 m j 10 c1)), (3, .int (nI j))], []) (n, c, s, mm b m M) o hf) : JV (Ev mtab mcode d) jcX7_digest (132, [(0, .ref b), (1, .long c1), (3, .int (nI j)), (4, .int 0)], []) (n, c, s, mm b m M) o hf := by
  rw [lf_X7_digest_132_eq] at hc
  unfold ly_X7_digest_132 at hc
  exact lp_X7_digest_132 hd hF hq 10 0 c1 (by omega) hc
noncomputable def bd_X7_digest_119 (m : Mem) (j : Nat) (c1 : Int64) : Int64 := ((31 * (lf_X7_digest_132 m j 10 c1)) + ((x_X7_whyNot m j)).toInt64)
noncomputable def ly_X7_digest_119 (m : Mem) (N : Nat) (c1 : Int64) : Int64 := itr (fun jz s => bd_X7_digest_119 m jz s) N 0 c1
theorem le_X7_digest_119 : ∃ f, f = ly_X7_digest_119 := ⟨ly_X7_digest_119, rfl⟩
noncomputable def lf_X7_digest_119 := Classical.choose le_X7_digest_119
theorem lf_X7_digest_119_eq : lf_X7_digest_119 = ly_X7_digest_119 := Classical.choose_spec le_X7_digest_119
theorem lp_X7_digest_119 {d n c s b : Nat} {M : JM} {o : JO} {hf : JH} {m : Mem} {N : Nat} (hd : 9 ≤ d) (hF : MK m) (hNc : N ≤ 12) (hN : m 1 0 2 = nI N) : ∀ (k j : Nat) (c1 : Int64), j + k = N → JV (Ev mtab mcode d) jcX7_digest (179, [(0, .ref b), (1, .long (itr (fun jz s => bd_X7_digest_119 m jz s) k j c1))], []) (n, c, s, mm b m M) o hf → JV (Ev mtab mcode d) jcX7_digest (119, [(0, .ref b), (1, .long c1), (3, .int (nI j))], []) (n, c, s, mm b m M) o hf := by
  intro k
  induction k with
  | zero =>
    intro j c1 hj hc
    refine JV.ild (p2 := 120) rfl rfl rfl ?_
    refine JV.ald (p2 := 121) rfl rfl rfl ?_
    refine JV.getf (p2 := 124) rfl mm_M rfl rfl ?_
    refine JV.stk (len := 1) (sem := (s_push (.int 2))) (p2 := 125) rfl rfl rfl ?_
    refine JV.iald (p2 := 126) (j := 2) rfl mm_1 rfl (by omega) (by decide) rfl ?_
    refine JV.brT rfl rfl (by rw [hN]; exact nI_le (a := N) (b := j) (by omega) (by omega)) ?_
    exact JV.keep [0, 1] rfl hc
  | succ k ih =>
    intro j c1 hj hc
    obtain ⟨s1, hx⟩ : ∃ s1, bd_X7_digest_119 m j c1 = s1 := ⟨_, rfl⟩
    have hc2 : JV (Ev mtab mcode d) jcX7_digest (179, [(0, .ref b), (1, .long (itr (fun jz s => bd_X7_digest_119 m jz s) k (j + 1) s1))], []) (n, c, s, mm b m M) o hf := by
      subst hx
      exact hc
    clear hc
    unfold bd_X7_digest_119 at hx
    refine JV.ild (p2 := 120) rfl rfl rfl ?_
    refine JV.ald (p2 := 121) rfl rfl rfl ?_
    refine JV.getf (p2 := 124) rfl mm_M rfl rfl ?_
    refine JV.stk (len := 1) (sem := (s_push (.int 2))) (p2 := 125) rfl rfl rfl ?_
    refine JV.iald (p2 := 126) (j := 2) rfl mm_1 rfl (by omega) (by decide) rfl ?_
    refine JV.brF (p2 := 129) rfl rfl rfl (by rw [hN]; exact nI_ge (a := j) (b := N) (by omega) (by omega)) ?_
    refine JV.stk (len := 1) (sem := (s_push (.int 0))) (p2 := 130) rfl rfl rfl ?_
    refine JV.ist (p2 := 132) rfl rfl rfl ?_
    refine lq_X7_digest_132 (c1 := c1) (m := m) (j := j) (by omega) hF (by omega) ?_
    refine JV.ldc2 (p2 := 163) rfl rfl ?_
    refine JV.lld (p2 := 164) rfl rfl rfl ?_
    refine JV.stk (len := 1) (sem := s_lmul) (p2 := 165) rfl rfl rfl ?_
    refine JV.ald (p2 := 166) rfl rfl rfl ?_
    refine JV.ild (p2 := 167) rfl rfl rfl ?_
    refine JV.invI (p2 := 170) rfl rfl rfl mm_M (Nat.le_of_ble_eq_true rfl) rfl (ev_X7_whyNot (q := j) (by omega) rfl hF (by omega) rfl) ?_
    refine JV.stk (len := 1) (sem := s_i2l) (p2 := 171) rfl rfl rfl ?_
    refine JV.stk (len := 1) (sem := s_ladd) (p2 := 172) rfl rfl rfl ?_
    refine JV.lst (p2 := 173) rfl rfl rfl ?_
    refine JV.iinc (p2 := 176) rfl rfl (nI_1 _) rfl rfl ?_
    refine JV.goto rfl ?_
    subst hx
    exact ih (j + 1) _ (by omega) hc2
theorem lq_X7_digest_119 {d n c s b : Nat} {M : JM} {o : JO} {hf : JH} {m : Mem} {N : Nat} {c1 : Int64} (hd : 9 ≤ d) (hF : MK m) (hNc : N ≤ 12) (hN : m 1 0 2 = nI N)  (hc : JV (Ev mtab mcode d) jcX7_digest (179, [(0, .ref b), (1, .long (lf_X7_digest_119 m N c1))], []) (n, c, s, mm b m M) o hf) : JV (Ev mtab mcode d) jcX7_digest (119, [(0, .ref b), (1, .long c1), (3, .int 0)], []) (n, c, s, mm b m M) o hf := by
  rw [lf_X7_digest_119_eq] at hc
  unfold ly_X7_digest_119 at hc
  exact lp_X7_digest_119 hd hF hNc hN N 0 c1 (by omega) hc
noncomputable def bd_X7_digest_181 (m : Mem) (j : Nat) (c1 : Int64) : Int64 := ((31 * c1) + ((m 1 0 (155 + j))).toInt64)
noncomputable def ly_X7_digest_181 (m : Mem) (N : Nat) (c1 : Int64) : Int64 := itr (fun jz s => bd_X7_digest_181 m jz s) N 0 c1
theorem le_X7_digest_181 : ∃ f, f = ly_X7_digest_181 := ⟨ly_X7_digest_181, rfl⟩
noncomputable def lf_X7_digest_181 := Classical.choose le_X7_digest_181
theorem lf_X7_digest_181_eq : lf_X7_digest_181 = ly_X7_digest_181 := Classical.choose_spec le_X7_digest_181
theorem lp_X7_digest_181 {d n c s b : Nat} {M : JM} {o : JO} {hf : JH} {m : Mem} {N : Nat} (hd : 9 ≤ d) (hF : MK m) (hNc : N ≤ 90) (hN : 3 * m 1 0 7 = nI N) : ∀ (k j : Nat) (c1 : Int64), j + k = N → JV (Ev mtab mcode d) jcX7_digest (218, [(0, .ref b), (1, .long (itr (fun jz s => bd_X7_digest_181 m jz s) k j c1))], []) (n, c, s, mm b m M) o hf → JV (Ev mtab mcode d) jcX7_digest (181, [(0, .ref b), (1, .long c1), (3, .int (nI j))], []) (n, c, s, mm b m M) o hf := by
  intro k
  induction k with
  | zero =>
    intro j c1 hj hc
    refine JV.ild (p2 := 182) rfl rfl rfl ?_
    refine JV.stk (len := 1) (sem := (s_push (.int 3))) (p2 := 183) rfl rfl rfl ?_
    refine JV.ald (p2 := 184) rfl rfl rfl ?_
    refine JV.getf (p2 := 187) rfl mm_M rfl rfl ?_
    refine JV.stk (len := 2) (sem := (s_push (.int 7))) (p2 := 189) rfl rfl rfl ?_
    refine JV.iald (p2 := 190) (j := 7) rfl mm_1 rfl (by omega) (by decide) rfl ?_
    refine JV.stk (len := 1) (sem := s_imul) (p2 := 191) rfl rfl rfl ?_
    refine JV.brT rfl rfl (by rw [hN]; exact nI_le (a := N) (b := j) (by omega) (by omega)) ?_
    exact JV.keep [0, 1] rfl hc
  | succ k ih =>
    intro j c1 hj hc
    obtain ⟨s1, hx⟩ : ∃ s1, bd_X7_digest_181 m j c1 = s1 := ⟨_, rfl⟩
    have hc2 : JV (Ev mtab mcode d) jcX7_digest (218, [(0, .ref b), (1, .long (itr (fun jz s => bd_X7_digest_181 m jz s) k (j + 1) s1))], []) (n, c, s, mm b m M) o hf := by
      subst hx
      exact hc
    clear hc
    unfold bd_X7_digest_181 at hx
    refine JV.ild (p2 := 182) rfl rfl rfl ?_
    refine JV.stk (len := 1) (sem := (s_push (.int 3))) (p2 := 183) rfl rfl rfl ?_
    refine JV.ald (p2 := 184) rfl rfl rfl ?_
    refine JV.getf (p2 := 187) rfl mm_M rfl rfl ?_
    refine JV.stk (len := 2) (sem := (s_push (.int 7))) (p2 := 189) rfl rfl rfl ?_
    refine JV.iald (p2 := 190) (j := 7) rfl mm_1 rfl (by omega) (by decide) rfl ?_
    refine JV.stk (len := 1) (sem := s_imul) (p2 := 191) rfl rfl rfl ?_
    refine JV.brF (p2 := 194) rfl rfl rfl (by rw [hN]; exact nI_ge (a := j) (b := N) (by omega) (by omega)) ?_
    refine JV.ldc2 (p2 := 197) rfl rfl ?_
    refine JV.lld (p2 := 198) rfl rfl rfl ?_
    refine JV.stk (len := 1) (sem := s_lmul) (p2 := 199) rfl rfl rfl ?_
    refine JV.ald (p2 := 200) rfl rfl rfl ?_
    refine JV.getf (p2 := 203) rfl mm_M rfl rfl ?_
    refine JV.stk (len := 3) (sem := (s_push (.int 155))) (p2 := 206) rfl rfl rfl ?_
    refine JV.ild (p2 := 207) rfl rfl rfl ?_
    refine JV.stk (len := 1) (sem := s_iadd) (p2 := 208) rfl rfl rfl ?_
    refine JV.iald (p2 := 209) (j := (155 + j)) rfl mm_1 (nI_addE rfl rfl) (by omega) (by decide) rfl ?_
    refine JV.stk (len := 1) (sem := s_i2l) (p2 := 210) rfl rfl rfl ?_
    refine JV.stk (len := 1) (sem := s_ladd) (p2 := 211) rfl rfl rfl ?_
    refine JV.lst (p2 := 212) rfl rfl rfl ?_
    refine JV.iinc (p2 := 215) rfl rfl (nI_1 _) rfl rfl ?_
    refine JV.goto rfl ?_
    subst hx
    exact ih (j + 1) _ (by omega) hc2
theorem lq_X7_digest_181 {d n c s b : Nat} {M : JM} {o : JO} {hf : JH} {m : Mem} {N : Nat} {c1 : Int64} (hd : 9 ≤ d) (hF : MK m) (hNc : N ≤ 90) (hN : 3 * m 1 0 7 = nI N)  (hc : JV (Ev mtab mcode d) jcX7_digest (218, [(0, .ref b), (1, .long (lf_X7_digest_181 m N c1))], []) (n, c, s, mm b m M) o hf) : JV (Ev mtab mcode d) jcX7_digest (181, [(0, .ref b), (1, .long c1), (3, .int 0)], []) (n, c, s, mm b m M) o hf := by
  rw [lf_X7_digest_181_eq] at hc
  unfold ly_X7_digest_181 at hc
  exact lp_X7_digest_181 hd hF hNc hN N 0 c1 (by omega) hc
noncomputable def y_X7_digest (m : Mem) : Mem × Int64 := ((x_X7_minutesIf (up3 m 0 0 1 0)).1, ((31 * ((31 * (lf_X7_digest_181 (up3 m 0 0 1 0) (3 * ix (m 1 0 7)) (lf_X7_digest_119 (up3 m 0 0 1 0) (ix (m 1 0 2)) (lf_X7_digest_82 (up3 m 0 0 1 0) (5 * ix (m 1 0 1)) (lf_X7_digest_44 (up3 m 0 0 1 0) (4 * ix (m 1 0 0)) (lf_X7_digest_17 (up3 m 0 0 1 0) 16 (109771 + (((up3 m 0 0 1 0) 0 0 2)).toInt64))))))) + ((x_X7_minutesIf (up3 m 0 0 1 0)).2).toInt64)) + (((x_X7_minutesIf (up3 m 0 0 1 0)).1 0 0 0)).toInt64))
theorem xe_X7_digest : ∃ f, f = y_X7_digest := ⟨y_X7_digest, rfl⟩
noncomputable def x_X7_digest := Classical.choose xe_X7_digest
theorem x_X7_digest_eq : x_X7_digest = y_X7_digest := Classical.choose_spec xe_X7_digest
theorem ev_X7_digest {d n c s b : Nat} {m : Mem} {M : JM} {B : Nat} {m0 : Mem} {res : Mem × Int64} (hd : 10 ≤ d) (hW : MW B m0 m) (hB : B + 0 < 2147483648) (hx : x_X7_digest m = res) : Ev mtab mcode d 156 [.ref b] (n, c, s, mm b m M) (.inl (some (.long res.2))) (n, c, s, mm b res.1 M) := by
  obtain ⟨d, rfl⟩ : ∃ e, d = e + 1 := ⟨d - 1, by omega⟩
  rw [x_X7_digest_eq] at hx
  unfold y_X7_digest at hx
  refine jv_mk (m := mX7_digest) (cd := jcX7_digest) rfl rfl (Nat.le_of_ble_eq_true rfl) trivial ?_
  refine JV.ald (p2 := 1) rfl rfl rfl ?_
  refine JV.stk (len := 1) (sem := (s_push (.int 0))) (p2 := 2) rfl rfl rfl ?_
  refine JV.puti (p2 := 5) rfl mm_M (Nat.le_of_ble_eq_true rfl) (mm_wM (k := 1) rfl) rfl ?_
  refine JV.ldc2 (p2 := 8) rfl rfl ?_
  refine JV.ald (p2 := 9) rfl rfl rfl ?_
  refine JV.getf (p2 := 12) rfl mm_M rfl rfl ?_
  refine JV.stk (len := 1) (sem := s_i2l) (p2 := 13) rfl rfl rfl ?_
  refine JV.stk (len := 1) (sem := s_ladd) (p2 := 14) rfl rfl rfl ?_
  refine JV.lst (p2 := 15) rfl rfl rfl ?_
  refine JV.stk (len := 1) (sem := (s_push (.int 0))) (p2 := 16) rfl rfl rfl ?_
  refine JV.ist (p2 := 17) rfl rfl rfl ?_
  refine lq_X7_digest_17 (c1 := (109771 + (((up3 m 0 0 1 0) 0 0 2)).toInt64)) (m := (up3 m 0 0 1 0)) (by omega) (MW.upo hW (by decide)).1 ?_
  refine JV.stk (len := 1) (sem := (s_push (.int 0))) (p2 := 43) rfl rfl rfl ?_
  refine JV.ist (p2 := 44) rfl rfl rfl ?_
  refine lq_X7_digest_44 (c1 := (lf_X7_digest_17 (up3 m 0 0 1 0) 16 (109771 + (((up3 m 0 0 1 0) 0 0 2)).toInt64))) (N := (4 * ix (m 1 0 0))) (m := (up3 m 0 0 1 0)) (by omega) (MW.upo hW (by decide)).1 (by have := hW.1.ns.2; omega) (nI_mulE (rfl : (4 : Int32) = nI 4) ((MW.same (MW.upo hW (by decide)) hW (by decide)).trans hW.1.ns.1)) ?_
  refine JV.stk (len := 1) (sem := (s_push (.int 0))) (p2 := 81) rfl rfl rfl ?_
  refine JV.ist (p2 := 82) rfl rfl rfl ?_
  refine lq_X7_digest_82 (c1 := (lf_X7_digest_44 (up3 m 0 0 1 0) (4 * ix (m 1 0 0)) (lf_X7_digest_17 (up3 m 0 0 1 0) 16 (109771 + (((up3 m 0 0 1 0) 0 0 2)).toInt64)))) (N := (5 * ix (m 1 0 1))) (m := (up3 m 0 0 1 0)) (by omega) (MW.upo hW (by decide)).1 (by have := hW.1.nt.2; omega) (nI_mulE (rfl : (5 : Int32) = nI 5) ((MW.same (MW.upo hW (by decide)) hW (by decide)).trans hW.1.nt.1)) ?_
  refine JV.stk (len := 1) (sem := (s_push (.int 0))) (p2 := 118) rfl rfl rfl ?_
  refine JV.ist (p2 := 119) rfl rfl rfl ?_
  refine lq_X7_digest_119 (c1 := (lf_X7_digest_82 (up3 m 0 0 1 0) (5 * ix (m 1 0 1)) (lf_X7_digest_44 (up3 m 0 0 1 0) (4 * ix (m 1 0 0)) (lf_X7_digest_17 (up3 m 0 0 1 0) 16 (109771 + (((up3 m 0 0 1 0) 0 0 2)).toInt64))))) (N := (ix (m 1 0 2))) (m := (up3 m 0 0 1 0)) (by omega) (MW.upo hW (by decide)).1 hW.1.na.2 (MW.cN (MW.upo hW (by decide)) hW (by decide)) ?_
  refine JV.stk (len := 1) (sem := (s_push (.int 0))) (p2 := 180) rfl rfl rfl ?_
  refine JV.ist (p2 := 181) rfl rfl rfl ?_
  refine lq_X7_digest_181 (c1 := (lf_X7_digest_119 (up3 m 0 0 1 0) (ix (m 1 0 2)) (lf_X7_digest_82 (up3 m 0 0 1 0) (5 * ix (m 1 0 1)) (lf_X7_digest_44 (up3 m 0 0 1 0) (4 * ix (m 1 0 0)) (lf_X7_digest_17 (up3 m 0 0 1 0) 16 (109771 + (((up3 m 0 0 1 0) 0 0 2)).toInt64)))))) (N := (3 * ix (m 1 0 7))) (m := (up3 m 0 0 1 0)) (by omega) (MW.upo hW (by decide)).1 (by have := hW.1.ev.2; omega) (nI_mulE (rfl : (3 : Int32) = nI 3) hW.1.ev.1) ?_
  refine JV.ldc2 (p2 := 221) rfl rfl ?_
  refine JV.ldc2 (p2 := 224) rfl rfl ?_
  refine JV.lld (p2 := 225) rfl rfl rfl ?_
  refine JV.stk (len := 1) (sem := s_lmul) (p2 := 226) rfl rfl rfl ?_
  refine JV.ald (p2 := 227) rfl rfl rfl ?_
  refine JV.invI (p2 := 230) rfl rfl rfl mm_M (Nat.le_of_ble_eq_true rfl) rfl (ev_X7_minutesIf (by omega) (MW.upo hW (by decide)) (by omega) rfl) ?_
  refine JV.stk (len := 1) (sem := s_i2l) (p2 := 231) rfl rfl rfl ?_
  refine JV.stk (len := 1) (sem := s_ladd) (p2 := 232) rfl rfl rfl ?_
  refine JV.stk (len := 1) (sem := s_lmul) (p2 := 233) rfl rfl rfl ?_
  refine JV.ald (p2 := 234) rfl rfl rfl ?_
  refine JV.getf (p2 := 237) rfl mm_M rfl rfl ?_
  refine JV.stk (len := 1) (sem := s_i2l) (p2 := 238) rfl rfl rfl ?_
  refine JV.stk (len := 1) (sem := s_ladd) (p2 := 239) rfl rfl rfl ?_
  subst hx
  exact JV.ret rfl (fun _ => rfl) rfl rfl
