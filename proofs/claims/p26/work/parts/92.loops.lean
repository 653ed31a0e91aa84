/-! loops of minutes: class and model end at the same one -/
section UNT
variable {m μ : Mem} {B P : Nat}
theorem until_c {st : Mem → Bool} (hst : ∀ x y : Mem, (∀ p z, z ≠ 8 → x 3 p z = y 3 p z) → (∀ z, z ≠ 3 → x 0 0 z = y 0 0 z) → st x = st y) (F : Nat → Mem × Int32 → Mem × Int32) (hF : ∀ j (s : Mem × Int32), F j s = if s.2 < nI P then (if st s.1 = true then s else ((x_X1_passSome s.1 (nI P - s.2)).1, s.2 + (x_X1_passSome s.1 (nI P - s.2)).2)) else s)
    (h : RB B m μ) (hB : B + 39 * P + 39 < 2 ^ 31) (hP2 : P ≤ 3000) (ht : ix (m 0 0 3) + P ≤ 13000) : ∃ i, i ≤ P ∧ itr F P 0 (m, 0) = (MK1 i m, nI i) ∧ (∀ i', i' < i → st (MK1 i' m) = false) ∧ (st (MK1 i m) = true ∨ i = P) := by
  have q := itr_inv (n := P) (s := (m, (0 : Int32))) (P := fun j (s : Mem × Int32) => ∃ i, i ≤ P ∧ s = (MK1 i m, nI i) ∧ (∀ i', i' < i → st (MK1 i' m) = false) ∧ (st (MK1 i m) = true ∨ i = P ∨ j ≤ i)) F (fun j s hj g => ?_) ⟨0, Nat.zero_le _, rfl, fun i' h => absurd h (Nat.not_lt_zero _), Or.inr (Or.inr (Nat.zero_le _))⟩
  · obtain ⟨i, hi, e, g1, g2⟩ := q
    exact ⟨i, hi, e, g1, g2.elim Or.inl (fun z => Or.inr (z.elim id (fun y => by omega)))⟩
  · obtain ⟨i, hi, rfl, g1, g2⟩ := g
    rw [hF]
    dsimp only
    by_cases h1 : i = P
    · rw [if_neg (by rw [h1]; exact nI_nlt (Nat.le_refl _) (by omega))]
      exact ⟨i, hi, rfl, g1, Or.inr (Or.inl h1)⟩
    · rw [if_pos (nI_lt (by omega) (by omega))]
      cases hs : st (MK1 i m) with
      | true =>
        rw [if_pos rfl]
        exact ⟨i, hi, rfl, g1, Or.inl hs⟩
      | false =>
        rw [if_neg (by decide), pk_sub hi]
        have mk := mk_ok h i (by omega) (by omega)
        obtain ⟨k, k1, k2, ke, kq⟩ := ps_ok (P := P - i) mk.1 (by omega) (by omega) (by omega) (by rw [mk.2.2]; omega)
        rw [ke]
        dsimp only
        rw [nI_add, ← mk1_add]
        refine ⟨i + k, by omega, rfl, fun i' hi' => ?_, Or.inr (Or.inr ?_)⟩
        · rcases Nat.lt_or_ge i' i with l | l
          · exact g1 i' l
          · have e : i' = i + (i' - i) := by omega
            rw [e, mk1_add]
            refine (hst _ (MK1 i m) (kq (i' - i) (by omega)) (fun z hz => ?_)).trans hs
            exact (mk_ok mk.1 (i' - i) (by omega) (by rw [mk.2.2]; omega)).2.1 z hz
        · rcases g2 with z | z | z
          · rw [hs] at z
            cases z
          · exact absurd z h1
          · omega
/-- the model's: with a counter -/
theorem until_m {sm : Mem → Bool} (G : Nat → Mem × Int32 → Mem × Int32) (hG : ∀ j (s : Mem × Int32), G j s = if s.2 < nI P then (if sm s.1 = true then s else (x_X7_minute s.1, s.2 + 1)) else s) (hP2 : P ≤ 3000) : ∃ i, i ≤ P ∧ itr G P 0 (μ, 0) = (MN i μ, nI i) ∧ (∀ i', i' < i → sm (MN i' μ) = false) ∧ (sm (MN i μ) = true ∨ i = P) := by
  have q := itr_inv (n := P) (s := (μ, (0 : Int32))) (P := fun j (s : Mem × Int32) => ∃ i, i ≤ P ∧ s = (MN i μ, nI i) ∧ (∀ i', i' < i → sm (MN i' μ) = false) ∧ (sm (MN i μ) = true ∨ i = P ∨ j ≤ i)) G (fun j s hj g => ?_) ⟨0, Nat.zero_le _, rfl, fun i' h => absurd h (Nat.not_lt_zero _), Or.inr (Or.inr (Nat.zero_le _))⟩
  · obtain ⟨i, hi, e, g1, g2⟩ := q
    exact ⟨i, hi, e, g1, g2.elim Or.inl (fun z => Or.inr (z.elim id (fun y => by omega)))⟩
  · obtain ⟨i, hi, rfl, g1, g2⟩ := g
    rw [hG]
    dsimp only
    by_cases h1 : i = P
    · rw [if_neg (by rw [h1]; exact nI_nlt (Nat.le_refl _) (by omega))]
      exact ⟨i, hi, rfl, g1, Or.inr (Or.inl h1)⟩
    · rw [if_pos (nI_lt (by omega) (by omega))]
      cases hs : sm (MN i μ) with
      | true =>
        rw [if_pos rfl]
        exact ⟨i, hi, rfl, g1, Or.inl hs⟩
      | false =>
        rw [if_neg (by decide), nI_1, ← mn_s]
        refine ⟨i + 1, by omega, rfl, fun i' hi' => ?_, Or.inr (Or.inr ?_)⟩
        · rcases Nat.lt_or_ge i' i with l | l
          · exact g1 i' l
          · have : i' = i := by omega
            subst this
            exact hs
        · rcases g2 with z | z | z
          · rw [hs] at z
            cases z
          · exact absurd z h1
          · omega
/-- without one -/
theorem until_d {sm : Mem → Bool} (G : Nat → Mem → Mem) (hG : ∀ j (s : Mem), G j s = if sm s = true then s else x_X7_minute s) : ∃ i, i ≤ P ∧ itr G P 0 μ = MN i μ ∧ (∀ i', i' < i → sm (MN i' μ) = false) ∧ (sm (MN i μ) = true ∨ i = P) := by
  have q := itr_inv (n := P) (s := μ) (P := fun j (s : Mem) => ∃ i, i ≤ j ∧ s = MN i μ ∧ (∀ i', i' < i → sm (MN i' μ) = false) ∧ (sm (MN i μ) = true ∨ i = j)) G (fun j s hj g => ?_) ⟨0, Nat.zero_le _, rfl, fun i' h => absurd h (Nat.not_lt_zero _), Or.inr rfl⟩
  · exact q
  · obtain ⟨i, hi, rfl, g1, g2⟩ := g
    rw [hG]
    cases hs : sm (MN i μ) with
    | true =>
      rw [if_pos rfl]
      exact ⟨i, by omega, rfl, g1, Or.inl hs⟩
    | false =>
      rw [if_neg (by decide), ← mn_s]
      have e : i = j := g2.resolve_left (by rw [hs]; decide)
      subst e
      refine ⟨i + 1, Nat.le_refl _, rfl, fun i' hi' => ?_, Or.inr rfl⟩
      rcases Nat.lt_or_ge i' i with l | l
      · exact g1 i' l
      · have : i' = i := by omega
        subst this
        exact hs
/-- both ends are one -/
theorem until_eq {st sm : Mem → Bool} {i i2 : Nat} (he : ∀ k, k ≤ P → st (MK1 k m) = sm (MN k μ)) (hi : i ≤ P) (h1 : ∀ i', i' < i → st (MK1 i' m) = false) (h2 : st (MK1 i m) = true ∨ i = P) (hi2 : i2 ≤ P) (g1 : ∀ i', i' < i2 → sm (MN i' μ) = false) (g2 : sm (MN i2 μ) = true ∨ i2 = P) : i = i2 := by
  rcases Nat.lt_or_ge i i2 with l | l
  · have := h2.resolve_right (by omega)
    rw [he i hi, g1 i l] at this
    cases this
  · rcases Nat.lt_or_ge i2 i with l2 | l2
    · have := g2.resolve_right (by omega)
      rw [← he i2 hi2, h1 i2 l2] at this
      cases this
    · omega
theorem co_n {w : Int32} (hN : ix (m 0 0 2) ≤ 12) : ∃ c, x_X1_countAt m w = nI c ∧ c ≤ ix (m 0 0 2) := by
  rw [x_X1_countAt_eq]
  unfold y_X1_countAt
  rw [lf_X1_countAt_4_eq]
  unfold ly_X1_countAt_4
  refine itr_inv (n := ix (m 0 0 2)) (s := (0 : Int32)) (P := fun j (s : Int32) => ∃ c, s = nI c ∧ c ≤ j) (fun jz s => bd_X1_countAt_4 m w jz s) (fun j s hj g => ?_) ⟨0, rfl, Nat.le_refl 0⟩
  obtain ⟨c, rfl, hc⟩ := g
  show ∃ c', bd_X1_countAt_4 m w j (nI c) = nI c' ∧ c' ≤ j + 1
  unfold bd_X1_countAt_4
  split
  · exact ⟨c + 1, nI_1 c, by omega⟩
  · exact ⟨c, rfl, by omega⟩
theorem gone_eq (h : RR m μ) : x_X1_areAllGone m = !decide (x_X7_inState μ 5 < μ 1 0 2) := by
  have ba := h.2.na
  obtain ⟨c, ec, hc⟩ := co_n (m := m) (w := 5) ba.2
  rw [x_X1_areAllGone_eq]
  unfold y_X1_areAllGone
  have b := ba.2
  rw [← co_eq h.1, ← h.1.c (k := 2) (by decide), ec]
  have l1 : nI c < m 0 0 2 ↔ c < ix (m 0 0 2) := by
    conv => lhs; rw [ba.1]
    exact nI_ltI (by omega) (by omega)
  by_cases g : nI c = m 0 0 2
  · rw [if_pos g]
    have : ¬ nI c < m 0 0 2 := by
      rw [g]
      exact Int32.lt_irrefl
    simp [this]
  · rw [if_neg g]
    have : c < ix (m 0 0 2) := by
      rcases Nat.lt_or_ge c (ix (m 0 0 2)) with l | l
      · exact l
      · exact absurd (by rw [show c = ix (m 0 0 2) by omega]; exact ba.1.symm) g
    simp [l1.mpr this]
theorem gone_st : ∀ x y : Mem, (∀ p z, z ≠ 8 → x 3 p z = y 3 p z) → (∀ z, z ≠ 3 → x 0 0 z = y 0 0 z) → x_X1_areAllGone x = x_X1_areAllGone y := fun x y h3 h0 => by
  rw [x_X1_areAllGone_eq]
  unfold y_X1_areAllGone
  have e : x_X1_countAt x 5 = x_X1_countAt y 5 := by
    rw [x_X1_countAt_eq]
    unfold y_X1_countAt
    rw [lf_X1_countAt_4_eq]
    unfold ly_X1_countAt_4
    rw [h0 2 (by decide), show (fun jz s => bd_X1_countAt_4 x 5 jz s) = fun jz s => bd_X1_countAt_4 y 5 jz s from funext fun jz => funext fun s => by
      unfold bd_X1_countAt_4
      rw [h3 jz 5 (by decide)]]
  rw [e, h0 2 (by decide)]
/-- until all are gone -/
theorem all_P (hP : P = 3000) (h : RB B m μ) (hB : B + 39 * P + 39 < 2 ^ 31) (ht : ix (m 0 0 3) + P ≤ 13000) : ∃ i, i ≤ P ∧ lf_X1_passUntilAllGone_4 P m 0 = (MK1 i m, nI i) ∧ lf_X7_toAll_2 P μ 0 = (MN i μ, nI i) ∧ RB (B + 39 * i) (MK1 i m) (MN i μ) := by
  have e3 : (3000 : Int32) = nI P := by
    rw [hP]
    rfl
  have l3 : P ≤ 3000 := Nat.le_of_eq hP
  clear hP
  have cls := until_c (P := P) gone_st (fun jz s => bd_X1_passUntilAllGone_4 jz s.1 s.2) (fun j s => by
    show bd_X1_passUntilAllGone_4 j s.1 s.2 = _
    unfold bd_X1_passUntilAllGone_4
    rw [e3]) h hB l3 ht
  have mod := until_m (μ := μ) (P := P) (sm := fun x => !decide (x_X7_inState x 5 < x 1 0 2)) (fun jz s => bd_X7_toAll_2 jz s.1 s.2) (fun j s => by
    show bd_X7_toAll_2 j s.1 s.2 = _
    unfold bd_X7_toAll_2
    rw [e3]
    by_cases g : x_X7_inState s.1 5 < s.1 1 0 2
    · simp [g]
    · simp [g]) l3
  obtain ⟨i, hi, e, c1, c2⟩ := cls
  obtain ⟨i2, hi2, e2, d1, d2⟩ := mod
  have rr : ∀ k, k ≤ P → RB (B + 39 * k) (MK1 k m) (MN k μ) := fun k hk => (mk_ok h k (by omega) (by omega)).1
  have same := until_eq (st := x_X1_areAllGone) (sm := fun x => !decide (x_X7_inState x 5 < x 1 0 2)) (fun k hk => gone_eq (rr k hk).1) hi c1 c2 hi2 d1 d2
  subst same
  refine ⟨i, hi, ?_, ?_, rr i hi⟩
  · rw [lf_X1_passUntilAllGone_4_eq]
    exact e
  · rw [lf_X7_toAll_2_eq]
    exact e2
theorem all_ok (h : RB B m μ) (hB : B + 39 * 3000 + 39 < 2 ^ 31) (ht : ix (m 0 0 3) + 3000 ≤ 13000) : ∃ i, i ≤ 3000 ∧ (x_X1_passUntilAllGone m).1 = MK1 i m ∧ (x_X7_toAll μ).1 = MN i μ ∧ (x_X1_passUntilAllGone m).2 = (x_X7_toAll μ).2 ∧ RB (B + 39 * i) (MK1 i m) (MN i μ) := by
  obtain ⟨P, hP⟩ : ∃ P : Nat, P = 3000 := ⟨_, rfl⟩
  obtain ⟨i, hi, e, e2, R⟩ := all_P (P := P) hP h (by omega) (by omega)
  refine ⟨i, by omega, ?_⟩
  rw [x_X1_passUntilAllGone_eq, x_X7_toAll_eq]
  unfold y_X1_passUntilAllGone y_X7_toAll
  rw [← hP, e, e2]
  dsimp only
  have cg : x_X1_areAllGone (MK1 i m) = true ↔ x_X7_inState (MN i μ) 5 = MN i μ 1 0 2 := by
    rw [x_X1_areAllGone_eq]
    unfold y_X1_areAllGone
    rw [co_eq R.1.1, R.1.1.c (k := 2) (by decide)]
    split
    · exact ⟨fun _ => by assumption, fun _ => rfl⟩
    · exact ⟨fun z => (by cases z), fun z => absurd z (by assumption)⟩
  by_cases g : x_X1_areAllGone (MK1 i m) = true
  · rw [if_pos g, if_pos (cg.mp g)]
    exact ⟨rfl, rfl, rfl, R⟩
  · rw [if_neg g, if_neg (fun z => g (cg.mpr z))]
    exact ⟨rfl, rfl, rfl, R⟩
end UNT
