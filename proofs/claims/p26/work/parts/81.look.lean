/-! looking: both answer alike -/
theorem itr_rel {S T : Type} {P : Nat → S → T → Prop} {n : Nat} {s : S} {t : T} (f : Nat → S → S) (g : Nat → T → T) (h : ∀ j s t, j < n → P j s t → P (j + 1) (f j s) (g j t)) (h0 : P 0 s t) : P n (itr f n 0 s) (itr g n 0 t) := by
  have q : ∀ k j s t, j + k = n → P j s t → P n (itr f k j s) (itr g k j t) := by
    intro k
    induction k with
    | zero =>
      intro j s t e p
      have : j = n := by omega
      subst this
      exact p
    | succ k ih =>
      intro j s t e p
      exact ih (j + 1) (f j s) (g j t) (by omega) (h j s t (by omega) p)
  exact q n 0 s t (by omega) h0
theorem s64 (x : Int32) : (x.toInt64 - 1).toInt = x.toInt - 1 := by
  have h1 := x.toInt_lt
  have h2 := x.le_toInt
  have e1 : (1 : Int64).toInt = 1 := by decide
  rw [Int64.toInt_sub, Int32.toInt_toInt64, e1]
  exact Int.bmod_eq_of_le (by omega) (by omega)
theorem l64 {x y : Int32} : x.toInt64 < y.toInt64 ↔ x < y := by rw [Int64.lt_iff_toInt_lt, Int32.toInt_toInt64, Int32.toInt_toInt64, Int32.lt_iff_toInt_lt]
theorem l64e {x b : Int32} : b.toInt64 - 1 < x.toInt64 ↔ ¬ x < b := by
  rw [Int64.lt_iff_toInt_lt, s64, Int32.toInt_toInt64, Int32.lt_iff_toInt_lt]
  omega
theorem in_end {x a b : Int32} : x_X7_in x.toInt64 a.toInt64 (b.toInt64 - 1) = true ↔ ¬ x < a ∧ x < b := by
  rw [x_X7_in_eq]
  unfold y_X7_in
  by_cases h1 : x < a
  · rw [if_pos (l64.mpr h1)]
    simp [h1]
  · rw [if_neg (fun q => h1 (l64.mp q))]
    by_cases h2 : x < b
    · rw [if_neg (fun q => (l64e.mp q) h2)]
      simp [h1, h2]
    · rw [if_pos (l64e.mpr h2)]
      simp [h2]
theorem in_out {x a c : Int32} : x_X7_in x.toInt64 a.toInt64 c.toInt64 = !x_X6_isOutside x a c := by
  rw [x_X7_in_eq, x_X6_isOutside_eq]
  unfold y_X7_in y_X6_isOutside
  by_cases h1 : x < a
  · rw [if_pos (l64.mpr h1), if_pos h1]
    rfl
  · rw [if_neg (fun q => h1 (l64.mp q)), if_neg h1]
    by_cases h2 : c < x
    · rw [if_pos (l64.mpr h2), if_pos h2]
      rfl
    · rw [if_neg (fun q => h2 (l64.mp q)), if_neg h2]
      rfl
theorem beq_of {b c : Bool} (h : b = true ↔ c = true) : b = c := by
  cases b <;> cases c <;> simp_all
theorem of_eq {m : Mem} {q w : Nat} : x_X7_of m q w = m 1 0 (35 + 10 * q + w) := by
  rw [x_X7_of_eq]
  rfl
theorem nI_inj {a b : Nat} (ha : a < 2 ^ 31) (hb : b < 2 ^ 31) (h : nI a = nI b) : a = b := (nI_eq ha hb).mp h
theorem nI_n1 {a : Nat} (ha : a < 2 ^ 31) : ¬ nI a = -1 := fun h => nI_pos ha (by rw [h]; decide)
section LKS
variable {m μ : Mem} {p q j t k : Nat} {x : Int32}
theorem hs_eq (h : RV m (μ 1 0)) : x_X1_hasStand m x = x_X7_isStand μ x := by
  refine beq_of ?_
  rw [x_X7_isStand_eq, x_X1_hasStand_eq]
  unfold y_X7_isStand y_X1_hasStand
  rw [show (0 : Int64) = (0 : Int32).toInt64 from rfl, in_end, h.c (k := 0) (by decide)]
  by_cases h1 : x < 0
  · simp [h1]
  · by_cases h2 : x < μ 1 0 0
    · simp [h1, h2]
    · simp [h1, h2]
theorem ht_eq (h : RV m (μ 1 0)) : x_X1_hasTug m x = x_X7_isTug μ x := by
  refine beq_of ?_
  rw [x_X7_isTug_eq, x_X1_hasTug_eq]
  unfold y_X7_isTug y_X1_hasTug
  rw [show (0 : Int64) = (0 : Int32).toInt64 from rfl, in_end, h.c (k := 1) (by decide)]
  by_cases h1 : x < 0
  · simp [h1]
  · by_cases h2 : x < μ 1 0 1
    · simp [h1, h2]
    · simp [h1, h2]
theorem ha_eq (h : RV m (μ 1 0)) : x_X1_hasAircraft m x = x_X7_isPlane μ x := by
  refine beq_of ?_
  rw [x_X7_isPlane_eq, x_X1_hasAircraft_eq]
  unfold y_X7_isPlane y_X1_hasAircraft
  rw [show (0 : Int64) = (0 : Int32).toInt64 from rfl, in_end, h.c (k := 2) (by decide)]
  by_cases h1 : x < 0
  · simp [h1]
  · by_cases h2 : x < μ 1 0 2
    · simp [h1, h2]
    · simp [h1, h2]
theorem cf_eq (h : RV m (μ 1 0)) : x_X1_isCurfew m = x_X7_isCurfew μ := by
  refine beq_of ?_
  rw [x_X7_isCurfew_eq, x_X1_isCurfew_eq]
  unfold y_X7_isCurfew y_X1_isCurfew
  rw [in_end, h.c (k := 3) (by decide), h.c (k := 4) (by decide), h.c (k := 5) (by decide)]
  generalize μ 1 0 3 - μ 1 0 3 / 1440 * 1440 = y
  by_cases h1 : y < μ 1 0 4
  · simp [h1]
  · by_cases h2 : y < μ 1 0 5
    · simp [h1, h2]
    · simp [h1, h2]
/-- who has a stand -/
theorem po_bd {w c : Int32} : (HP (x_X7_of μ j 5) ∧ x_X7_of μ j 6 = w → bd_X7_planeOf_4 μ w j c = nI j) ∧ (¬ (HP (x_X7_of μ j 5) ∧ x_X7_of μ j 6 = w) → bd_X7_planeOf_4 μ w j c = c) := by
  unfold bd_X7_planeOf_4 HP
  constructor
  · rintro ⟨h1 | h1 | h1, h2⟩
    · rw [if_pos h1, if_pos h2]
    · rw [if_neg (by rw [h1]; decide), if_pos h1, if_pos h2]
    · rw [if_neg (by rw [h1]; decide), if_neg (by rw [h1]; decide), if_pos h1, if_pos h2]
  · intro h
    repeat' split
    all_goals first
      | rfl
      | (exfalso; simp_all; done)
theorem po_eq (h : RR m μ) (hj : j < ix (m 0 0 0)) : x_X7_planeOf μ (nI j) = m 1 j 1 := by
  have bn := h.2.na.2
  rw [x_X7_planeOf_eq]
  unfold y_X7_planeOf
  rw [lf_X7_planeOf_4_eq]
  unfold ly_X7_planeOf_4
  rw [← h.1.c (k := 2) (by decide)]
  have q := itr_inv (n := ix (m 0 0 2)) (s := (-1 : Int32)) (P := fun i c => (c = -1 ∧ ∀ p, p < i → ¬ (HP (m 3 p 5) ∧ m 3 p 6 = nI j)) ∨ ∃ p, p < i ∧ c = nI p ∧ HP (m 3 p 5) ∧ m 3 p 6 = nI j) (fun jz s => bd_X7_planeOf_4 μ (nI j) jz s) (fun i c hi g => ?_) (Or.inl ⟨rfl, fun p hp => absurd hp (Nat.not_lt_zero p)⟩)
  · rcases q with ⟨e, q⟩ | ⟨p, hp, e, h1, h2⟩
    · rw [e]
      rcases h.2.2.1.2.2 j hj with z | ⟨p, hp, z⟩
      · exact z.symm
      · exact absurd ((h.2.2.1.2.1 j p hj hp).mpr z) (q p hp)
    · rw [e]
      exact ((h.2.2.1.2.1 j p hj hp).mp ⟨h1, h2⟩).symm
  · have e5 : x_X7_of μ i 5 = m 3 i 5 := of_eq.trans (h.1.a hi (by decide)).symm
    have e6 : x_X7_of μ i 6 = m 3 i 6 := of_eq.trans (h.1.a hi (by decide)).symm
    have bd := po_bd (μ := μ) (j := i) (w := nI j) (c := c)
    rw [e5, e6] at bd
    by_cases g2 : HP (m 3 i 5) ∧ m 3 i 6 = nI j
    · refine Or.inr ⟨i, Nat.lt_succ_self i, bd.1 g2, g2⟩
    · show (bd_X7_planeOf_4 μ (nI j) i c = -1 ∧ _) ∨ ∃ p, p < i + 1 ∧ bd_X7_planeOf_4 μ (nI j) i c = nI p ∧ _
      rw [bd.2 g2]
      rcases g with ⟨e, g⟩ | ⟨p, hp, g⟩
      · refine Or.inl ⟨e, fun p hp => ?_⟩
        rcases Nat.lt_or_ge p i with l | l
        · exact g p l
        · have : p = i := by omega
          subst this
          exact g2
      · exact Or.inr ⟨p, Nat.lt_succ_of_lt hp, g⟩
/-- the stand for an aircraft -/
theorem sf_eq (h : RR m μ) (hq : q < ix (m 0 0 2)) : x_X1_freeStandFor m (m 3 q 0) = x_X7_standFor μ q ∧ (x_X1_freeStandFor m (m 3 q 0) = -1 ∨ ∃ i, i < ix (m 0 0 0) ∧ x_X1_freeStandFor m (m 3 q 0) = nI i ∧ m 1 i 1 = -1) := by
  have bn := h.2.ns.2
  rw [x_X7_standFor_eq, x_X1_freeStandFor_eq]
  unfold y_X7_standFor y_X1_freeStandFor
  rw [lf_X7_standFor_4_eq, lf_X1_freeStandFor_4_eq]
  unfold ly_X7_standFor_4 ly_X1_freeStandFor_4
  rw [← h.1.c (k := 0) (by decide)]
  refine itr_rel (P := fun i c c' => c = c' ∧ (c = -1 ∨ ∃ i', i' < ix (m 0 0 0) ∧ c = nI i' ∧ m 1 i' 1 = -1)) (fun jz s => bd_X1_freeStandFor_4 m (m 3 q 0) jz s) (fun jz s => bd_X7_standFor_4 μ q jz s) (fun i c c' hi g => ?_) ⟨rfl, Or.inl rfl⟩
  obtain ⟨rfl, g⟩ := g
  show bd_X1_freeStandFor_4 m (m 3 q 0) i c = bd_X7_standFor_4 μ q i c ∧ (bd_X1_freeStandFor_4 m (m 3 q 0) i c = -1 ∨ ∃ i', i' < ix (m 0 0 0) ∧ bd_X1_freeStandFor_4 m (m 3 q 0) i c = nI i' ∧ m 1 i' 1 = -1)
  unfold bd_X1_freeStandFor_4 bd_X7_standFor_4
  rw [po_eq h hi, ← h.1.s0 hi, of_eq, ← h.1.a (k := 0) hq (by decide)]
  by_cases h1 : m 1 i 1 = -1
  · rw [if_pos h1, if_pos h1]
    by_cases h2 : m 1 i 0 < m 3 q 0
    · rw [if_pos h2, if_pos h2]
      exact ⟨rfl, g⟩
    · rw [if_neg h2, if_neg h2]
      by_cases h3 : c = -1
      · rw [if_pos h3, if_pos h3]
        exact ⟨rfl, Or.inr ⟨i, hi, rfl, h1⟩⟩
      · rw [if_neg h3, if_neg h3]
        obtain ⟨i', hi', e, z⟩ := g.resolve_left h3
        have e2 : ix c = i' := by rw [e, ix_nI (by omega)]
        rw [e2, ← h.1.s0 hi']
        by_cases h4 : m 1 i 0 < m 1 i' 0
        · rw [if_pos h4]
          exact ⟨rfl, Or.inr ⟨i, hi, rfl, h1⟩⟩
        · rw [if_neg h4]
          exact ⟨rfl, g⟩
  · rw [if_neg h1, if_neg h1]
    refine ⟨?_, g⟩
    split <;> rfl
/-- the tug for an aircraft -/
theorem tf_eq (h : RV m (μ 1 0)) (ht : ix (m 0 0 1) ≤ 3) (hq : q < ix (m 0 0 2)) : x_X1_freeTugFor m (m 3 q 1) = x_X7_tugFor μ q ∧ (x_X1_freeTugFor m (m 3 q 1) = -1 ∨ ∃ i, i < ix (m 0 0 1) ∧ x_X1_freeTugFor m (m 3 q 1) = nI i ∧ m 2 i 1 = -1) := by
  rw [x_X7_tugFor_eq, x_X1_freeTugFor_eq]
  unfold y_X7_tugFor y_X1_freeTugFor
  rw [lf_X7_tugFor_4_eq, lf_X1_freeTugFor_4_eq]
  unfold ly_X7_tugFor_4 ly_X1_freeTugFor_4
  rw [← h.c (k := 1) (by decide)]
  refine itr_rel (P := fun i c c' => c = c' ∧ (c = -1 ∨ ∃ i', i' < ix (m 0 0 1) ∧ c = nI i' ∧ m 2 i' 1 = -1)) (fun jz s => bd_X1_freeTugFor_4 m (m 3 q 1) jz s) (fun jz s => bd_X7_tugFor_4 μ q jz s) (fun i c c' hi g => ?_) ⟨rfl, Or.inl rfl⟩
  obtain ⟨rfl, g⟩ := g
  show bd_X1_freeTugFor_4 m (m 3 q 1) i c = bd_X7_tugFor_4 μ q i c ∧ (bd_X1_freeTugFor_4 m (m 3 q 1) i c = -1 ∨ ∃ i', i' < ix (m 0 0 1) ∧ bd_X1_freeTugFor_4 m (m 3 q 1) i c = nI i' ∧ m 2 i' 1 = -1)
  unfold bd_X1_freeTugFor_4 bd_X7_tugFor_4
  rw [← h.t (k := 1) hi (by decide), ← h.t (k := 0) hi (by decide), of_eq, ← h.a (k := 1) hq (by decide)]
  by_cases h1 : m 2 i 1 = -1
  · rw [if_pos h1, if_pos h1]
    by_cases h2 : m 2 i 0 < m 3 q 1
    · rw [if_pos h2, if_pos h2]
      exact ⟨rfl, g⟩
    · rw [if_neg h2, if_neg h2]
      by_cases h3 : c = -1
      · rw [if_pos h3, if_pos h3]
        exact ⟨rfl, Or.inr ⟨i, hi, rfl, h1⟩⟩
      · rw [if_neg h3, if_neg h3]
        obtain ⟨i', hi', e, z⟩ := g.resolve_left h3
        have e2 : ix c = i' := by rw [e, ix_nI (by omega)]
        rw [e2, ← h.t (k := 0) hi' (by decide)]
        by_cases h4 : m 2 i 0 < m 2 i' 0
        · rw [if_pos h4]
          exact ⟨rfl, Or.inr ⟨i, hi, rfl, h1⟩⟩
        · rw [if_neg h4]
          exact ⟨rfl, g⟩
  · rw [if_neg h1, if_neg h1]
    refine ⟨?_, g⟩
    split <;> rfl
theorem pf_eq (h : RR m μ) : x_X1_isPushedFrom m x = x_X7_isPushedFrom μ x := by
  have bn := h.2.ns.2
  have ba := h.2.na.2
  rw [x_X7_isPushedFrom_eq]
  unfold y_X7_isPushedFrom
  rw [← hs_eq h.1, x_X1_isPushedFrom_eq, x_X1_hasStand_eq]
  unfold y_X1_isPushedFrom y_X1_hasStand
  by_cases h1 : x < 0
  · rw [if_pos h1, if_pos h1]
    rfl
  · rw [if_neg h1, if_neg h1]
    by_cases h2 : x < m 0 0 0
    · have e := has_lt h.2.ns (by decide) h1 h2
      rw [if_pos h2, if_pos h2, if_pos rfl]
      have e3 : x_X7_planeOf μ x = m 1 (ix x) 1 := by
        conv => lhs; rw [e.1]
        exact po_eq h e.2
      rw [e3]
      by_cases h3 : m 1 (ix x) 1 = -1
      · rw [if_pos h3, if_pos h3]
      · rw [if_neg h3, if_neg h3]
        obtain ⟨p, hp, e4⟩ := (h.2.2.1.2.2 (ix x) e.2).resolve_left h3
        have e4' : m 1 (ix x) 1 = nI p := e4
        rw [e4', ix_nI (by omega), of_eq, ← h.1.a hp (by decide)]
    · rw [if_neg h2, if_neg h2, if_neg (by decide)]
theorem wn_eq (h : RR m μ) (hq : q < ix (m 0 0 2)) : x_X1_reason m q = x_X7_whyNot μ q := by
  have bn := h.2.ns.2
  have bt := h.2.nt.2
  have hp := h.2.2.1.1 q hq
  rw [x_X1_reason_eq, x_X7_whyNot_eq]
  unfold y_X1_reason y_X7_whyNot
  rw [x_X0_isOnStandOrBay_eq]
  unfold y_X0_isOnStandOrBay
  rw [of_eq, of_eq, of_eq, ← h.1.a (k := 5) hq (by decide), ← h.1.a (k := 3) hq (by decide), ← h.1.a (k := 6) hq (by decide), ← cf_eq h.1, ← h.1.c (k := 3) (by decide), ← pf_eq h, ← pf_eq h, ← (tf_eq h.1 bt hq).1]
  rcases hp with ⟨e | e | e | e, s⟩ | ⟨e | e | e, i, hi, s⟩
  all_goals
    have e' := e
    have s' := s
    dsimp only at e' s'
    simp [e', s', nI_n1 (show _ < 2 ^ 31 from by first | exact (show i < 2 ^ 31 by omega) | exact (show 0 < 2 ^ 31 by decide))]
/-- counts and delays -/
theorem co_eq (h : RV m (μ 1 0)) : x_X1_countAt m x = x_X7_inState μ x := by
  rw [x_X1_countAt_eq, x_X7_inState_eq]
  unfold y_X1_countAt y_X7_inState
  rw [lf_X1_countAt_4_eq, lf_X7_inState_4_eq]
  unfold ly_X1_countAt_4 ly_X7_inState_4
  rw [← h.c (k := 2) (by decide)]
  refine itr_rel (P := fun _ c c' => c = c') (fun jz s => bd_X1_countAt_4 m x jz s) (fun jz s => bd_X7_inState_4 μ x jz s) (fun i c c' hi g => ?_) rfl
  subst g
  show bd_X1_countAt_4 m x i c = bd_X7_inState_4 μ x i c
  unfold bd_X1_countAt_4 bd_X7_inState_4
  rw [of_eq, ← h.a (k := 5) hi (by decide)]
  by_cases h1 : m 3 i 5 = x
  · rw [if_pos h1, if_pos h1]
  · rw [if_neg h1, if_neg h1]
    simp
theorem dl_nn {K : Nat} {y : Int32} (hy : y = -1 ∨ VN K y) (hK : K < 2 ^ 31) (g : ¬ y = -1) : ¬ y < 0 := vn_nn (hy.resolve_left g) hK
theorem sd_eq (h : RV m (μ 1 0)) (hi : IQ (ix (m 0 0 2)) m) : x_X1_sumOfDelays m = x_X7_delays μ 0 := by
  rw [x_X1_sumOfDelays_eq, x_X7_delays_eq]
  unfold y_X1_sumOfDelays y_X7_delays
  rw [lf_X1_sumOfDelays_4_eq, lf_X7_delays_4_eq]
  unfold ly_X1_sumOfDelays_4 ly_X7_delays_4
  rw [← h.c (k := 2) (by decide)]
  refine itr_rel (P := fun _ c c' => c = c') (fun jz s => bd_X1_sumOfDelays_4 m jz s) (fun jz s => bd_X7_delays_4 μ 0 jz s) (fun i c c' hj g => ?_) rfl
  subst g
  show bd_X1_sumOfDelays_4 m i c = bd_X7_delays_4 μ 0 i c
  unfold bd_X1_sumOfDelays_4 bd_X7_delays_4
  have d := (hi i hj).2.2
  rw [of_eq, ← h.a (k := 7) hj (by decide), if_pos rfl, if_pos rfl]
  by_cases h1 : m 3 i 7 = -1
  · rw [if_pos h1, h1]
    rfl
  · rw [if_neg h1]
    have nn := dl_nn d (by decide) h1
    by_cases h2 : 0 < m 3 i 7
    · rw [if_pos h2]
    · rw [if_neg h2, Int32.le_antisymm (Int32.not_lt.mp h2) (Int32.not_lt.mp nn)]
theorem gd_eq (h : RV m (μ 1 0)) (hi : IQ (ix (m 0 0 2)) m) : x_X1_greatestDelay m = x_X7_delays μ 1 := by
  rw [x_X1_greatestDelay_eq, x_X7_delays_eq]
  unfold y_X1_greatestDelay y_X7_delays
  rw [lf_X1_greatestDelay_4_eq, lf_X7_delays_4_eq]
  unfold ly_X1_greatestDelay_4 ly_X7_delays_4
  rw [← h.c (k := 2) (by decide)]
  refine (itr_rel (P := fun _ c c' => c = c' ∧ ¬ c < 0) (fun jz s => bd_X1_greatestDelay_4 m jz s) (fun jz s => bd_X7_delays_4 μ 1 jz s) (fun i c c' hj g => ?_) ⟨rfl, by decide⟩).1
  obtain ⟨rfl, g⟩ := g
  show bd_X1_greatestDelay_4 m i c = bd_X7_delays_4 μ 1 i c ∧ ¬ bd_X1_greatestDelay_4 m i c < 0
  unfold bd_X1_greatestDelay_4 bd_X7_delays_4
  have d := (hi i hj).2.2
  rw [of_eq, ← h.a (k := 7) hj (by decide), if_neg (show ¬ (1 : Int32) = 0 by decide), if_neg (show ¬ (1 : Int32) = 0 by decide)]
  by_cases h1 : m 3 i 7 = -1
  · have l : ¬ c < m 3 i 7 := fun l => g (Int32.lt_trans l (by rw [h1]; decide))
    rw [if_pos h1, if_neg l, if_neg g]
    exact ⟨rfl, g⟩
  · rw [if_neg h1]
    have nn := dl_nn d (by decide) h1
    refine ⟨rfl, ?_⟩
    split
    · exact nn
    · exact g
theorem sb_eq (h : RV m (μ 1 0)) : x_X1_sumOfBuses m = μ 1 0 6 := by
  rw [x_X1_sumOfBuses_eq, ← h.b]
  unfold y_X1_sumOfBuses
  rw [lf_X1_sumOfBuses_4_eq]
  unfold ly_X1_sumOfBuses_4
  exact itr_inv (P := fun i c => c = bsum m i) (fun jz s => bd_X1_sumOfBuses_4 m jz s) (fun i c hi g => by
    show bd_X1_sumOfBuses_4 m i c = bsum m i + m 3 i 9
    rw [← g]
    rfl) rfl
end LKS
