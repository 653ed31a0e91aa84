/-! what a copied field holds -/
section CPF
variable {m mo : Mem} {i k z N : Nat}
theorem cr_S (hz : z < 3) : x_X3_copyFrom m i mo k 1 i z = mo 1 k z := by
  rw [x_X3_copyFrom_eq]
  unfold y_X3_copyFrom
  match z, hz with
  | 0, _ => simp [up3]
  | 1, _ => simp [up3]
  | 2, _ => simp [up3]
theorem cr_T (hz : z < 5) : x_X5_copyFrom m i mo k 2 i z = mo 2 k z := by
  rw [x_X5_copyFrom_eq]
  unfold y_X5_copyFrom
  match z, hz with
  | 0, _ => simp [up3]
  | 1, _ => simp [up3]
  | 2, _ => simp [up3]
  | 3, _ => simp [up3]
  | 4, _ => simp [up3]
theorem cr_A (hz : z < 10) : x_X0_copyFrom m i mo k 3 i z = mo 3 k z := by
  rw [x_X0_copyFrom_eq]
  unfold y_X0_copyFrom
  match z, hz with
  | 0, _ => simp [up3]
  | 1, _ => simp [up3]
  | 2, _ => simp [up3]
  | 3, _ => simp [up3]
  | 4, _ => simp [up3]
  | 5, _ => simp [up3]
  | 6, _ => simp [up3]
  | 7, _ => simp [up3]
  | 8, _ => simp [up3]
  | 9, _ => simp [up3]
theorem cn_S {i2 : Nat} (h : i2 ≠ i) : x_X3_copyFrom m i mo k 1 i2 = m 1 i2 := by
  rw [x_X3_copyFrom_eq]
  unfold y_X3_copyFrom
  repeat rw [up3_rows (fun q => h q.2)]
theorem cn_T {i2 : Nat} (h : i2 ≠ i) : x_X5_copyFrom m i mo k 2 i2 = m 2 i2 := by
  rw [x_X5_copyFrom_eq]
  unfold y_X5_copyFrom
  repeat rw [up3_rows (fun q => h q.2)]
theorem cn_A {i2 : Nat} (h : i2 ≠ i) : x_X0_copyFrom m i mo k 3 i2 = m 3 i2 := by
  rw [x_X0_copyFrom_eq]
  unfold y_X0_copyFrom
  repeat rw [up3_rows (fun q => h q.2)]
/-- a loop that copies row by row -/
theorem cp_rows {F : Nat → Mem → Mem} {f K : Nat} (h1 : ∀ j s z, z < K → F j s f j z = mo f j z) (h2 : ∀ j s i, i ≠ j → F j s f i = s f i) (h3 : ∀ j s g, g ≠ f → F j s g = s g) (N : Nat) : (∀ i z, i < N → z < K → itr F N 0 m f i z = mo f i z) ∧ (∀ i, N ≤ i → itr F N 0 m f i = m f i) ∧ ∀ g, g ≠ f → itr F N 0 m g = m g := by
  refine itr_inv (P := fun (j : Nat) (s : Mem) => (∀ i z, i < j → z < K → s f i z = mo f i z) ∧ (∀ i, j ≤ i → s f i = m f i) ∧ ∀ g, g ≠ f → s g = m g) F (fun j s _ p => ?_) ⟨fun i z hi => absurd hi (Nat.not_lt_zero i), fun _ _ => rfl, fun _ _ => rfl⟩
  refine ⟨fun i z hi hz => ?_, fun i hi => ?_, fun g hg => (h3 j s g hg).trans (p.2.2 g hg)⟩
  · by_cases e : i = j
    · subst e
      exact h1 _ _ _ hz
    · rw [h2 j s i e]
      exact p.1 i z (by omega) hz
  · rw [h2 j s i (by omega)]
    exact p.2.1 i (by omega)
theorem cl_S : (∀ i z, i < N → z < 3 → lf_X1_copyFrom_50 mo N m 1 i z = mo 1 i z) ∧ (∀ i, N ≤ i → lf_X1_copyFrom_50 mo N m 1 i = m 1 i) ∧ ∀ g, g ≠ 1 → lf_X1_copyFrom_50 mo N m g = m g := by
  rw [lf_X1_copyFrom_50_eq]
  unfold ly_X1_copyFrom_50
  exact cp_rows (fun j s z hz => cr_S hz) (fun j s i h => cn_S h) (fun j s g h => cp_Sf h) N
theorem cl_T : (∀ i z, i < N → z < 5 → lf_X1_copyFrom_81 mo N m 2 i z = mo 2 i z) ∧ (∀ i, N ≤ i → lf_X1_copyFrom_81 mo N m 2 i = m 2 i) ∧ ∀ g, g ≠ 2 → lf_X1_copyFrom_81 mo N m g = m g := by
  rw [lf_X1_copyFrom_81_eq]
  unfold ly_X1_copyFrom_81
  exact cp_rows (fun j s z hz => cr_T hz) (fun j s i h => cn_T h) (fun j s g h => cp_Tf h) N
theorem cl_A : (∀ i z, i < N → z < 10 → lf_X1_copyFrom_112 mo N m 3 i z = mo 3 i z) ∧ (∀ i, N ≤ i → lf_X1_copyFrom_112 mo N m 3 i = m 3 i) ∧ ∀ g, g ≠ 3 → lf_X1_copyFrom_112 mo N m g = m g := by
  rw [lf_X1_copyFrom_112_eq]
  unfold ly_X1_copyFrom_112
  exact cp_rows (fun j s z hz => cr_A hz) (fun j s i h => cn_A h) (fun j s g h => cp_Af h) N
theorem cl_L : x_X2_copyFrom m mo 4 0 0 = mo 4 0 0 ∧ (∀ f z, (f = 5 ∨ f = 6 ∨ f = 7) → z < 30 → x_X2_copyFrom m mo f 0 z = mo f 0 z) ∧ ∀ g, g < 4 → x_X2_copyFrom m mo g = m g := by
  rw [x_X2_copyFrom_eq]
  unfold y_X2_copyFrom
  refine ⟨up3_self _ _ _ _ _, fun f z hf hz => ?_, fun g hg => ?_⟩
  · rw [up3_fam (by omega)]
    rcases hf with rfl | rfl | rfl
    · show cpR m 5 mo 5 0 z = _
      show va_cpy (mo 5 0) (m 5 0) 0 0 30 z = _
      rw [pk_cpy_in (Nat.zero_le _) (by omega)]
      show mo 5 0 (0 + (z - 0)) = _
      rw [Nat.sub_zero, Nat.zero_add]
    · show va_cpy (mo 6 0) (m 6 0) 0 0 30 z = _
      rw [pk_cpy_in (Nat.zero_le _) (by omega)]
      show mo 6 0 (0 + (z - 0)) = _
      rw [Nat.sub_zero, Nat.zero_add]
    · show va_cpy (mo 7 0) (m 7 0) 0 0 30 z = _
      rw [pk_cpy_in (Nat.zero_le _) (by omega)]
      show mo 7 0 (0 + (z - 0)) = _
      rw [Nat.sub_zero, Nat.zero_add]
  · rw [up3_fam (by omega)]
    funext i'
    have e : ∀ (f : Nat) (s : Mem), 5 ≤ f → cpR s f mo g i' = s g i' := fun f s h => if_neg (by omega)
    rw [e 7 _ (by decide), e 6 _ (by decide), e 5 _ (by decide)]
/-- the copy, all that a run can look at -/
theorem copy_of : (∀ z, z < 6 → x_X1_copyFrom m mo 0 0 z = mo 0 0 z) ∧ (∀ i z, i < ix (mo 0 0 0) → z < 3 → x_X1_copyFrom m mo 1 i z = mo 1 i z) ∧ (∀ i z, i < ix (mo 0 0 1) → z < 5 → x_X1_copyFrom m mo 2 i z = mo 2 i z) ∧ (∀ i z, i < ix (mo 0 0 2) → z < 10 → x_X1_copyFrom m mo 3 i z = mo 3 i z) ∧ x_X1_copyFrom m mo 4 0 0 = mo 4 0 0 ∧ (∀ f z, (f = 5 ∨ f = 6 ∨ f = 7) → z < 30 → x_X1_copyFrom m mo f 0 z = mo f 0 z) ∧ (∀ i, ix (mo 0 0 0) ≤ i → x_X1_copyFrom m mo 1 i = m 1 i) ∧ (∀ i, ix (mo 0 0 1) ≤ i → x_X1_copyFrom m mo 2 i = m 2 i) ∧ ∀ i, ix (mo 0 0 2) ≤ i → x_X1_copyFrom m mo 3 i = m 3 i := by
  rw [x_X1_copyFrom_eq]
  unfold y_X1_copyFrom
  refine ⟨fun z hz => ?_, fun i z hi hz => ?_, fun i z hi hz => ?_, fun i z hi hz => ?_, cl_L.1, cl_L.2.1, fun i hi => ?_, fun i hi => ?_, fun i hi => ?_⟩
  · rw [cl_L.2.2 0 (by decide), cl_A.2.2 0 (by decide), cl_T.2.2 0 (by decide), cl_S.2.2 0 (by decide)]
    match z, hz with
    | 0, _ => rfl
    | 1, _ => rfl
    | 2, _ => rfl
    | 3, _ => rfl
    | 4, _ => rfl
    | 5, _ => rfl
  · rw [cl_L.2.2 1 (by decide), cl_A.2.2 1 (by decide), cl_T.2.2 1 (by decide)]
    exact cl_S.1 i z hi hz
  · rw [cl_L.2.2 2 (by decide), cl_A.2.2 2 (by decide)]
    exact cl_T.1 i z hi hz
  · rw [cl_L.2.2 3 (by decide)]
    exact cl_A.1 i z hi hz
  · rw [cl_L.2.2 1 (by decide), cl_A.2.2 1 (by decide), cl_T.2.2 1 (by decide), cl_S.2.1 i hi]
    repeat rw [up3_fam (by decide)]
  · rw [cl_L.2.2 2 (by decide), cl_A.2.2 2 (by decide), cl_T.2.1 i hi, cl_S.2.2 2 (by decide)]
    repeat rw [up3_fam (by decide)]
  · rw [cl_L.2.2 3 (by decide), cl_A.2.1 i hi, cl_T.2.2 3 (by decide), cl_S.2.2 3 (by decide)]
    repeat rw [up3_fam (by decide)]
theorem fk_copy (h : FK m) (ho : FK mo) : FK (x_X1_copyFrom m mo) := by
  obtain ⟨c0, c1, c2, c3, -, -, d1, d2, d3⟩ := copy_of (m := m) (mo := mo)
  refine ⟨?_, ?_, ?_, fun j hj => ?_, fun j hj => ?_, fun j hj => ?_⟩
  · rw [c0 0 (by decide)]; exact ho.ns
  · rw [c0 1 (by decide)]; exact ho.nt
  · rw [c0 2 (by decide)]; exact ho.na
  · rcases Nat.lt_or_ge j (ix (mo 0 0 0)) with g | g
    · rw [c1 j 1 g (by decide)]; exact ho.st hj
    · rw [d1 j g]; exact h.st hj
  · rcases Nat.lt_or_ge j (ix (mo 0 0 1)) with g | g
    · rw [c2 j 1 g (by decide)]; exact ho.tu hj
    · rw [d2 j g]; exact h.tu hj
  · rcases Nat.lt_or_ge j (ix (mo 0 0 2)) with g | g
    · rw [c3 j 6 g (by decide)]; exact ho.ac hj
    · rw [d3 j g]; exact h.ac hj
theorem fw_copy {B : Nat} (h : FK m) (ho : FK mo) (hv : VN B (mo 4 0 0)) : FW B mo (x_X1_copyFrom m mo) := ⟨fk_copy h ho, by rw [copy_of.2.2.2.2.1]; exact hv, fun k hk => copy_of.1 k (by omega)⟩
end CPF
/-! the saved row -/
theorem JV.aast {E : JE} {cd : List (Nat × JA)} {pc p2 n c s t ci len q x : Nat} {l : List (Nat × Value)} {r : List Value} {hf : JH} {o : JO} {M M' : JM} {fs : List Value} {i : Int32} {j : Nat} {xs : Nat → Option Nat} (hl : jlk cd pc = some (a_aast t ci)) (hM : M q = .inl (t, len, .inr (.inr (.inr (.inr xs))))) (hx : M x = .inr (ci, fs)) (hi : i = nI j) (hj : j < len) (hn : len < 2 ^ 31) (hM' : va_up M q (.inl (t, len, .inr (.inr (.inr (.inr (va_up xs j (some x))))))) = M') (hp : pc + 1 = p2) (kk : JV E cd (p2, l, r) (n, c, s, M') o hf) : JV E cd (pc, l, .ref x :: .int i :: .ref q :: r) (n, c, s, M) o hf := by
  subst hi
  subst hp
  subst hM'
  intro e he
  refine JR.one hl ?_ (kk e he)
  unfold a_aast
  dsimp only
  rw [hM]
  dsimp only
  rw [if_pos ⟨rfl, jin_nI hj hn⟩, hx]
  dsimp only
  rw [if_pos rfl, nI_clamp (Nat.lt_trans hj hn)]
theorem cQ_up {bb : Nat} {g : Nat → Int32} {j : Nat} (hj : j < 4) (v : Int32) : (.inl (6, 4, .inr (.inr (.inr (.inr (va_up (fun i => if i < 4 then some (bb + 61 + 29 * ix (g i)) else none) j (some (bb + 61 + 29 * ix v))))))) : JC) = cQ bb (upd g j v) := by
  unfold cQ
  congr 7
  funext i
  by_cases e : i = j
  · subst e
    rw [va_up_self, if_pos hj]
    simp [upd]
  · rw [va_up_ne _ _ e]
    simp [upd, e]
noncomputable def y_X6_dropOldest (S : Sys) : Sys := us S 0 (up3 (up3 (up3 (up3 (up3 (S 0) 1 0 0 (S 0 1 0 1)) 1 0 1 (S 0 1 0 2)) 1 0 2 (S 0 1 0 3)) 1 0 3 (S 0 1 0 0)) 0 0 0 (S 0 0 0 0 - 1))
theorem xe_X6_dropOldest : ∃ f, f = y_X6_dropOldest := ⟨y_X6_dropOldest, rfl⟩
noncomputable def x_X6_dropOldest := Classical.choose xe_X6_dropOldest
theorem x_X6_dropOldest_eq : x_X6_dropOldest = y_X6_dropOldest := Classical.choose_spec xe_X6_dropOldest
theorem us_us {S : Sys} {u : Nat} {a b : Mem} : us (us S u a) u b = us S u b := by
  funext v
  by_cases h : v = u
  · subst h
    rw [us_same, us_same]
  · rw [us_ne h, us_ne h, us_ne h]
/-- one place of the saved row takes over another's field -/
theorem jv_mv {bb : Nat} {E : JE} {cd : List (Nat × JA)} {pc p2 n c s j : Nat} {l : List (Nat × Value)} {r : List Value} {hf : JH} {o : JO} {M : JM} {S : Sys} {i v : Int32} (hl : jlk cd pc = some (a_aast 6 1)) (hi : i = nI j) (hj : j < 4) (hv : ix v < 4) (hp : pc + 1 = p2) (kk : JV E cd (p2, l, r) (n, c, s, sy bb (us S 0 (up3 (S 0) 1 0 j v)) M) o hf) : JV E cd (pc, l, .ref (bb + 61 + 29 * ix v) :: .int i :: .ref (bb + 60) :: r) (n, c, s, sy bb S M) o hf :=
  JV.aast hl sy_Q (syp_F hv) hi hj (by decide) (sy_wQ (cQ_up hj v)) hp kk
theorem vn_u4 {x : Int32} (h : VN 3 x) : ix x < 4 := Nat.lt_succ_of_le h.2
theorem ev_X6_dropOldest {bb : Nat} {d n c s : Nat} {m : Sys} {M : JM} {res : Sys} (hd : 1 ≤ d) (hp : ∀ i, i < 4 → VN 3 (m 0 1 0 i)) (hx : x_X6_dropOldest m = res) : Ev mtab mcode d 88 [.ref (bb + 1)] (n, c, s, sy bb m M) (.inl none) (n, c, s, sy bb res M) := by
  obtain ⟨d, rfl⟩ : ∃ e, d = e + 1 := ⟨d - 1, by omega⟩
  have p0 := vn_u4 (hp 0 (by decide))
  have p1 := vn_u4 (hp 1 (by decide))
  have p2 := vn_u4 (hp 2 (by decide))
  have p3 := vn_u4 (hp 3 (by decide))
  rw [x_X6_dropOldest_eq] at hx
  unfold y_X6_dropOldest at hx
  refine jv_mk (m := mX6_dropOldest) (cd := jcX6_dropOldest) rfl rfl (Nat.le_of_ble_eq_true rfl) trivial ?_
  refine JV.ald (p2 := 1) rfl rfl rfl ?_
  refine JV.getf (p2 := 4) rfl sy_X rfl rfl ?_
  refine JV.stk (len := 1) (sem := (s_push (.int 0))) (p2 := 5) rfl rfl rfl ?_
  refine JV.aald (j := 0) (p2 := 6) rfl sy_Q rfl (by decide) (by decide) (if_pos (by decide)) rfl ?_
  refine JV.ast (p2 := 7) rfl rfl rfl ?_
  refine JV.stk (len := 1) (sem := (s_push (.int 1))) (p2 := 8) rfl rfl rfl ?_
  refine JV.ist (p2 := 9) rfl rfl rfl ?_
  -- 1
  refine JV.ild (p2 := 10) rfl rfl rfl ?_
  refine JV.stk (len := 1) (sem := (s_push (.int 4))) (p2 := 11) rfl rfl rfl ?_
  refine JV.brF (p2 := 14) rfl rfl rfl (by decide) ?_
  refine JV.ald (p2 := 15) rfl rfl rfl ?_
  refine JV.getf (p2 := 18) rfl sy_X rfl rfl ?_
  refine JV.ild (p2 := 19) rfl rfl rfl ?_
  refine JV.stk (len := 1) (sem := (s_push (.int 1))) (p2 := 20) rfl rfl rfl ?_
  refine JV.stk (len := 1) (sem := s_isub) (p2 := 21) rfl rfl rfl ?_
  refine JV.ald (p2 := 22) rfl rfl rfl ?_
  refine JV.getf (p2 := 25) rfl sy_X rfl rfl ?_
  refine JV.ild (p2 := 26) rfl rfl rfl ?_
  refine JV.aald (j := 1) (p2 := 27) rfl sy_Q rfl (by decide) (by decide) (if_pos (by decide)) rfl ?_
  refine jv_mv (j := 0) (p2 := 28) rfl rfl (by decide) p1 rfl ?_
  refine JV.iinc (p2 := 31) rfl rfl (nI_1 1) rfl rfl ?_
  refine JV.goto rfl ?_
  -- 2
  refine JV.ild (p2 := 10) rfl rfl rfl ?_
  refine JV.stk (len := 1) (sem := (s_push (.int 4))) (p2 := 11) rfl rfl rfl ?_
  refine JV.brF (p2 := 14) rfl rfl rfl (by decide) ?_
  refine JV.ald (p2 := 15) rfl rfl rfl ?_
  refine JV.getf (p2 := 18) rfl sy_X rfl rfl ?_
  refine JV.ild (p2 := 19) rfl rfl rfl ?_
  refine JV.stk (len := 1) (sem := (s_push (.int 1))) (p2 := 20) rfl rfl rfl ?_
  refine JV.stk (len := 1) (sem := s_isub) (p2 := 21) rfl rfl rfl ?_
  refine JV.ald (p2 := 22) rfl rfl rfl ?_
  refine JV.getf (p2 := 25) rfl sy_X rfl rfl ?_
  refine JV.ild (p2 := 26) rfl rfl rfl ?_
  refine JV.aald (j := 2) (p2 := 27) rfl sy_Q rfl (by decide) (by decide) (if_pos (by decide)) rfl ?_
  refine jv_mv (j := 1) (v := m 0 1 0 2) (p2 := 28) rfl (by decide) (by decide) p2 rfl ?_
  refine JV.iinc (p2 := 31) rfl rfl (nI_1 2) rfl rfl ?_
  refine JV.goto rfl ?_
  -- 3
  refine JV.ild (p2 := 10) rfl rfl rfl ?_
  refine JV.stk (len := 1) (sem := (s_push (.int 4))) (p2 := 11) rfl rfl rfl ?_
  refine JV.brF (p2 := 14) rfl rfl rfl (by decide) ?_
  refine JV.ald (p2 := 15) rfl rfl rfl ?_
  refine JV.getf (p2 := 18) rfl sy_X rfl rfl ?_
  refine JV.ild (p2 := 19) rfl rfl rfl ?_
  refine JV.stk (len := 1) (sem := (s_push (.int 1))) (p2 := 20) rfl rfl rfl ?_
  refine JV.stk (len := 1) (sem := s_isub) (p2 := 21) rfl rfl rfl ?_
  refine JV.ald (p2 := 22) rfl rfl rfl ?_
  refine JV.getf (p2 := 25) rfl sy_X rfl rfl ?_
  refine JV.ild (p2 := 26) rfl rfl rfl ?_
  refine JV.aald (j := 3) (p2 := 27) rfl sy_Q rfl (by decide) (by decide) (if_pos (by decide)) rfl ?_
  refine jv_mv (j := 2) (v := m 0 1 0 3) (p2 := 28) rfl (by decide) (by decide) p3 rfl ?_
  refine JV.iinc (p2 := 31) rfl rfl (nI_1 3) rfl rfl ?_
  refine JV.goto rfl ?_
  refine JV.ild (p2 := 10) rfl rfl rfl ?_
  refine JV.stk (len := 1) (sem := (s_push (.int 4))) (p2 := 11) rfl rfl rfl ?_
  refine JV.brT rfl rfl (by decide) ?_
  refine JV.ald (p2 := 35) rfl rfl rfl ?_
  refine JV.getf (p2 := 38) rfl sy_X rfl rfl ?_
  refine JV.stk (len := 1) (sem := (s_push (.int 3))) (p2 := 39) rfl rfl rfl ?_
  refine JV.ald (p2 := 40) rfl rfl rfl ?_
  refine jv_mv (j := 3) (v := m 0 1 0 0) (p2 := 41) rfl rfl (by decide) p0 rfl ?_
  refine JV.ald (p2 := 42) rfl rfl rfl ?_
  refine JV.stk (len := 1) (sem := s_dup) (p2 := 43) rfl rfl rfl ?_
  refine JV.getf (p2 := 46) rfl sy_X rfl rfl ?_
  refine JV.stk (len := 1) (sem := (s_push (.int 1))) (p2 := 47) rfl rfl rfl ?_
  refine JV.stk (len := 1) (sem := s_isub) (p2 := 48) rfl rfl rfl ?_
  refine JV.puti (p2 := 51) rfl sy_X (Nat.le_of_ble_eq_true rfl) (sy_wX (k := 0) rfl) rfl ?_
  have e : us (us (us (us (us m 0 (up3 (m 0) 1 0 0 (m 0 1 0 1))) 0 (up3 (up3 (m 0) 1 0 0 (m 0 1 0 1)) 1 0 1 (m 0 1 0 2))) 0 (up3 (up3 (up3 (m 0) 1 0 0 (m 0 1 0 1)) 1 0 1 (m 0 1 0 2)) 1 0 2 (m 0 1 0 3))) 0 (up3 (up3 (up3 (up3 (m 0) 1 0 0 (m 0 1 0 1)) 1 0 1 (m 0 1 0 2)) 1 0 2 (m 0 1 0 3)) 1 0 3 (m 0 1 0 0))) 0 (up3 (up3 (up3 (up3 (up3 (m 0) 1 0 0 (m 0 1 0 1)) 1 0 1 (m 0 1 0 2)) 1 0 2 (m 0 1 0 3)) 1 0 3 (m 0 1 0 0)) 0 0 0 (m 0 0 0 0 - 1)) = res := by
    rw [us_us, us_us, us_us, us_us]
    exact hx
  subst e
  exact JV.ret rfl (fun _ => rfl) rfl rfl
/-- save, behind the dropping -/
noncomputable def sv1 (S : Sys) : Sys := us (us S (3 + ix (S 0 1 0 (ix (S 0 0 0 0)))) (x_X1_copyFrom (S (3 + ix (S 0 1 0 (ix (S 0 0 0 0))))) (S 1))) 0 (up3 (S 0) 0 0 0 (S 0 0 0 0 + 1))
noncomputable def y_X6_save (S : Sys) : Sys := if S 0 0 0 0 = 4 then sv1 (x_X6_dropOldest S) else sv1 S
theorem xe_X6_save : ∃ f, f = y_X6_save := ⟨y_X6_save, rfl⟩
noncomputable def x_X6_save := Classical.choose xe_X6_save
theorem x_X6_save_eq : x_X6_save = y_X6_save := Classical.choose_spec xe_X6_save
theorem sk_drop {B : Nat} {S : Sys} (h : SK B S) (h4 : S 0 0 0 0 = 4) : SK B (x_X6_dropOldest S) ∧ x_X6_dropOldest S 0 0 0 0 = 3 := by
  rw [x_X6_dropOldest_eq]
  unfold y_X6_dropOldest
  have e : us S 0 (up3 (up3 (up3 (up3 (up3 (S 0) 1 0 0 (S 0 1 0 1)) 1 0 1 (S 0 1 0 2)) 1 0 2 (S 0 1 0 3)) 1 0 3 (S 0 1 0 0)) 0 0 0 (S 0 0 0 0 - 1)) 0 0 0 0 = 3 := by
    rw [us_same, up3_self, h4]
    decide
  refine ⟨⟨?_, fun i hi => ?_, fun u h1 h6 => ?_, ?_⟩, e⟩
  · rw [e]
    exact ⟨by decide +kernel, by decide +kernel⟩
  · rw [us_same, up3_ne (by simp)]
    match i, hi with
    | 0, _ => exact h.2.1 1 (by decide)
    | 1, _ => exact h.2.1 2 (by decide)
    | 2, _ => exact h.2.1 3 (by decide)
    | 3, _ => exact h.2.1 0 (by decide)
  · rw [us_ne (by omega)]
    exact h.2.2.1 u h1 h6
  · rw [us_ne (by decide)]
    exact h.2.2.2
theorem sk_sv1 {B : Nat} {S : Sys} (h : SK B S) (h3 : VN 3 (S 0 0 0 0)) : SK B (sv1 S) := by
  have hp := vn_u4 (h.2.1 _ (vn_u4 h3))
  unfold sv1
  have q := sk_us (u := 3 + ix (S 0 1 0 (ix (S 0 0 0 0)))) h (by omega) (by omega) (fk_copy (h.2.2.1 (3 + ix (S 0 1 0 (ix (S 0 0 0 0)))) (by omega) (by omega)).1 h.f1) (by rw [copy_of.2.2.2.2.1]; exact (h.2.2.1 1 (by decide) (by decide)).2)
  refine ⟨?_, fun i hi => ?_, fun u h1 h6 => ?_, ?_⟩
  · rw [us_same, up3_self]
    have e : S 0 0 0 0 + 1 = nI (ix (S 0 0 0 0) + 1) := by rw [← nI_1, ← h3.1]
    have b := h3.2
    unfold VN
    rw [e, ix_nI (by omega)]
    exact ⟨rfl, by omega⟩
  · rw [us_same, up3_ne (by simp)]
    exact h.2.1 i hi
  · rw [us_ne (by omega)]
    exact q.2.2.1 u h1 h6
  · rw [us_ne (by decide)]
    exact q.2.2.2
theorem sk_43 {B : Nat} {S : Sys} (h : SK B S) (g : ¬ S 0 0 0 0 = 4) : VN 3 (S 0 0 0 0) := vn_43 h.1 g
theorem sk_save {B : Nat} {S : Sys} (h : SK B S) : SK B (x_X6_save S) := by
  rw [x_X6_save_eq]
  unfold y_X6_save
  split
  · rename_i e
    have q := sk_drop h e
    exact sk_sv1 q.1 (by rw [q.2]; exact ⟨by decide +kernel, by decide +kernel⟩)
  · rename_i e
    exact sk_sv1 h (sk_43 h e)
/-- what save leaves alone -/
theorem sv_u {S : Sys} {u : Nat} (h : u = 1 ∨ u = 2 ∨ u = 7) (hs : ∀ i, i < 4 → VN 3 (S 0 1 0 i)) (h4 : VN 4 (S 0 0 0 0)) : x_X6_save S u = S u := by
  have e1 : ∀ T : Sys, ix (T 0 1 0 (ix (T 0 0 0 0))) < 4 → sv1 T u = T u := fun T hT => by
    unfold sv1
    rw [us_ne (by omega), us_ne (by omega)]
  rw [x_X6_save_eq]
  unfold y_X6_save
  split
  · rename_i e
    have ed : x_X6_dropOldest S u = S u := by
      rw [x_X6_dropOldest_eq]
      exact us_ne (by omega)
    rw [e1 _ ?_, ed]
    rw [x_X6_dropOldest_eq]
    unfold y_X6_dropOldest
    rw [us_same, up3_self, e, show ix ((4 : Int32) - 1) = 3 by decide +kernel]
    exact vn_u4 (hs 0 (by decide))
  · rename_i e
    exact e1 _ (vn_u4 (hs _ (vn_u4 (vn_43 h4 e))))
theorem jv_sv1 {bb : Nat} {d n c s : Nat} {m : Sys} {M : JM} (hd : 2 ≤ d) {B : Nat} (hW : SK B m) (h3 : VN 3 (m 0 0 0 0)) : JV (Ev mtab mcode d) jcX6_save (12, [(0, .ref (bb + 1))], []) (n, c, s, sy bb m M) (.inl none) (n, c, s, sy bb (sv1 m) M) := by
  have hp := vn_u4 (hW.2.1 _ (vn_u4 h3))
  refine JV.ald (p2 := 13) rfl rfl rfl ?_
  refine JV.getf (p2 := 16) rfl sy_X rfl rfl ?_
  refine JV.ald (p2 := 17) rfl rfl rfl ?_
  refine JV.getf (p2 := 20) rfl sy_X rfl rfl ?_
  refine JV.aald (j := ix (m 0 0 0 0)) (p2 := 21) rfl sy_Q h3.1 (vn_u4 h3) (by decide) (if_pos (vn_u4 h3)) rfl ?_
  refine JV.ald (p2 := 22) rfl rfl rfl ?_
  refine JV.getf (p2 := 25) rfl sy_X rfl rfl ?_
  refine JV.inv0 (p2 := 28) rfl rfl rfl (syp_F hp) (Nat.le_of_ble_eq_true rfl) rfl (syp_ev hp (ev_X1_copyFrom (by omega) hW.f1 syp_1 rfl)) ?_
  refine JV.ald (p2 := 29) rfl rfl rfl ?_
  refine JV.stk (len := 1) (sem := s_dup) (p2 := 30) rfl rfl rfl ?_
  refine JV.getf (p2 := 33) rfl sy_X rfl rfl ?_
  refine JV.stk (len := 1) (sem := (s_push (.int 1))) (p2 := 34) rfl rfl rfl ?_
  refine JV.stk (len := 1) (sem := s_iadd) (p2 := 35) rfl rfl rfl ?_
  refine JV.puti (p2 := 38) rfl sy_X (Nat.le_of_ble_eq_true rfl) (sy_wX (k := 0) rfl) rfl ?_
  have e : us m (3 + ix (m 0 1 0 (ix (m 0 0 0 0)))) (x_X1_copyFrom (m (3 + ix (m 0 1 0 (ix (m 0 0 0 0))))) (m 1)) 0 = m 0 := us_ne (by omega)
  unfold sv1
  rw [e]
  exact JV.ret rfl (fun _ => rfl) rfl rfl
theorem ev_X6_save {bb : Nat} {d n c s : Nat} {m : Sys} {M : JM} {B : Nat} {res : Sys} (hd : 3 ≤ d) (hW : SK B m) (hx : x_X6_save m = res) : Ev mtab mcode d 87 [.ref (bb + 1)] (n, c, s, sy bb m M) (.inl none) (n, c, s, sy bb res M) := by
  obtain ⟨d, rfl⟩ : ∃ e, d = e + 1 := ⟨d - 1, by omega⟩
  rw [x_X6_save_eq] at hx
  unfold y_X6_save at hx
  refine jv_mk (m := mX6_save) (cd := jcX6_save) rfl rfl (Nat.le_of_ble_eq_true rfl) trivial ?_
  refine JV.ald (p2 := 1) rfl rfl rfl ?_
  refine JV.getf (p2 := 4) rfl sy_X rfl rfl ?_
  refine JV.stk (len := 1) (sem := (s_push (.int 4))) (p2 := 5) rfl rfl rfl ?_
  by_cases h : m 0 0 0 0 = 4
  · rw [if_pos h] at hx
    have q := sk_drop hW h
    refine JV.brF (p2 := 8) rfl rfl rfl (fun e => e h) ?_
    refine JV.ald (p2 := 9) rfl rfl rfl ?_
    refine JV.inv0 (p2 := 12) rfl rfl rfl sy_X (Nat.le_of_ble_eq_true rfl) rfl (ev_X6_dropOldest (by omega) hW.2.1 rfl) ?_
    subst hx
    exact jv_sv1 (by omega) q.1 (by rw [q.2]; exact ⟨by decide +kernel, by decide +kernel⟩)
  · rw [if_neg h] at hx
    refine JV.brT rfl rfl h ?_
    subst hx
    exact jv_sv1 (by omega) hW (sk_43 hW h)
/-! undo -/
noncomputable def y_X6_undo (S : Sys) : Sys × (Int32 ⊕ String) := if S 0 0 0 0 = 0 then (S, .inr "java/lang/IllegalStateException") else (us (us S 0 (up3 (S 0) 0 0 0 (S 0 0 0 0 - 1))) 1 (x_X1_copyFrom (S 1) (S (3 + ix (S 0 1 0 (ix (S 0 0 0 0 - 1)))))), .inl (S 0 0 0 0 - 1))
theorem xe_X6_undo : ∃ f, f = y_X6_undo := ⟨y_X6_undo, rfl⟩
noncomputable def x_X6_undo := Classical.choose xe_X6_undo
theorem x_X6_undo_eq : x_X6_undo = y_X6_undo := Classical.choose_spec xe_X6_undo
theorem ev_X6_undo {bb : Nat} {d n c s : Nat} {m : Sys} {M : JM} {B : Nat} {res : Sys × (Int32 ⊕ String)} (hd : 6 ≤ d) (hW : SK B m) (hx : x_X6_undo m = res) : Ev mtab mcode d 83 [.ref (bb + 1)] (n, c, s, sy bb m M) (jO res.2) (jH res.2 (n, c, s, sy bb m M) (n, c, s, sy bb res.1 M)) := by
  obtain ⟨d, rfl⟩ : ∃ e, d = e + 1 := ⟨d - 1, by omega⟩
  rw [x_X6_undo_eq] at hx
  unfold y_X6_undo at hx
  refine jv_mkS (m := mX6_undo) (cd := jcX6_undo) rfl rfl (Nat.le_of_ble_eq_true rfl) (fun _ => trivial) (by omega) rfl ?_
  refine JV.ald (p2 := 1) rfl rfl rfl ?_
  refine JV.getf (p2 := 4) rfl sy_X rfl rfl ?_
  by_cases h : m 0 0 0 0 = 0
  · rw [if_pos h] at hx
    refine JV.brF (p2 := 7) rfl rfl rfl (fun e => e h) ?_
    subst hx
    exact JV.thr rfl (Nat.le_of_ble_eq_true rfl)
  · rw [if_neg h] at hx
    have h3 : VN 3 (m 0 0 0 0 - 1) := vn_41 hW.1 h
    have hp := vn_u4 (hW.2.1 _ (vn_u4 h3))
    refine JV.brT rfl rfl h ?_
    refine JV.ald (p2 := 18) rfl rfl rfl ?_
    refine JV.stk (len := 1) (sem := s_dup) (p2 := 19) rfl rfl rfl ?_
    refine JV.getf (p2 := 22) rfl sy_X rfl rfl ?_
    refine JV.stk (len := 1) (sem := (s_push (.int 1))) (p2 := 23) rfl rfl rfl ?_
    refine JV.stk (len := 1) (sem := s_isub) (p2 := 24) rfl rfl rfl ?_
    refine JV.puti (p2 := 27) rfl sy_X (Nat.le_of_ble_eq_true rfl) (sy_wX (k := 0) rfl) rfl ?_
    refine JV.ald (p2 := 28) rfl rfl rfl ?_
    refine JV.getf (p2 := 31) rfl sy_X rfl rfl ?_
    refine JV.ald (p2 := 32) rfl rfl rfl ?_
    refine JV.getf (p2 := 35) rfl sy_X rfl rfl ?_
    refine JV.ald (p2 := 36) rfl rfl rfl ?_
    refine JV.getf (p2 := 39) rfl sy_X rfl rfl ?_
    have e0 : us m 0 (up3 (m 0) 0 0 0 (m 0 0 0 0 - 1)) (3 + ix (m 0 1 0 (ix (m 0 0 0 0 - 1)))) = m (3 + ix (m 0 1 0 (ix (m 0 0 0 0 - 1)))) := us_ne (by omega)
    refine JV.aald (j := ix (m 0 0 0 0 - 1)) (p2 := 40) rfl sy_Q h3.1 (vn_u4 h3) (by decide) (if_pos (vn_u4 h3)) rfl ?_
    refine JV.inv0 (p2 := 43) rfl rfl rfl sy1_F (Nat.le_of_ble_eq_true rfl) rfl (sy1_ev (ev_X1_copyFrom (mo := us m 0 (up3 (m 0) 0 0 0 (m 0 0 0 0 - 1)) (3 + ix (m 0 1 0 (ix (m 0 0 0 0 - 1))))) (by omega) (by rw [e0]; exact (hW.2.2.1 _ (by omega) (by omega)).1) (sy1_p hp) rfl)) ?_
    refine JV.ald (p2 := 44) rfl rfl rfl ?_
    refine JV.getf (p2 := 47) rfl sy_X rfl rfl ?_
    rw [e0]
    subst hx
    exact JV.ret rfl (fun _ => rfl) rfl rfl
theorem sk_undo {B : Nat} {S : Sys} (h : SK B S) : SK B (x_X6_undo S).1 := by
  rw [x_X6_undo_eq]
  unfold y_X6_undo
  split
  · exact h
  · rename_i e
    have h3 : VN 3 (S 0 0 0 0 - 1) := vn_41 h.1 e
    have hp := vn_u4 (h.2.1 _ (vn_u4 h3))
    have ho := h.2.2.1 (3 + ix (S 0 1 0 (ix (S 0 0 0 0 - 1)))) (by omega) (by omega)
    have q : SK B (us S 0 (up3 (S 0) 0 0 0 (S 0 0 0 0 - 1))) := by
      refine ⟨?_, fun i hi => ?_, fun u h1 h6 => ?_, ?_⟩
      · rw [us_same, up3_self]
        exact ⟨h3.1, Nat.le_succ_of_le h3.2⟩
      · rw [us_same, up3_ne (by simp)]
        exact h.2.1 i hi
      · rw [us_ne (by omega)]
        exact h.2.2.1 u h1 h6
      · rw [us_ne (by decide)]
        exact h.2.2.2
    exact sk_us q (by decide) (by decide) (fk_copy h.f1 ho.1) (by rw [copy_of.2.2.2.2.1]; exact ho.2)
