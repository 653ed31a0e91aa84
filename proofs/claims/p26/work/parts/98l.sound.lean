/-! reasons and turns, from the other end; what holds besides of every field -/
def PF (m : Mem) (j : Nat) : Prop := ¬ m 1 j 1 = -1 ∧ m 3 (ix (m 1 j 1)) 5 = 4
def GS (m : Mem) : Prop :=
  (∀ j p, j < ix (m 0 0 0) → p < ix (m 0 0 2) → HP (m 3 p 5) → m 3 p 6 = nI j → ¬ m 1 j 0 < m 3 p 0) ∧
  (∀ j, j + 1 < ix (m 0 0 0) → ¬ (PF m j ∧ PF m (j + 1))) ∧
  (∀ p, p < ix (m 0 0 2) → ((m 3 p 5 = 4 ∨ m 3 p 5 = 5) → VN 20000 (m 3 p 7)) ∧ (¬ (m 3 p 5 = 4 ∨ m 3 p 5 = 5) → m 3 p 7 = -1)) ∧
  (∀ t, t < ix (m 0 0 1) → (m 2 t 1 = -1 → m 2 t 2 = 0) ∧ ∀ p, p < ix (m 0 0 2) → m 2 t 1 = nI p → (m 3 p 5 = 3 ∨ m 3 p 5 = 4) ∧ ¬ m 2 t 0 < m 3 p 1) ∧
  ∀ t t', t < ix (m 0 0 1) → t' < ix (m 0 0 1) → m 2 t 1 = m 2 t' 1 → ¬ m 2 t 1 = -1 → t = t'
def isum (f : Nat → Int32) : Nat → Int32
  | 0 => 0
  | N + 1 => isum f N + f N
def SM (m : Mem) : Prop := isum (fun p => m 3 p 8) (ix (m 0 0 2)) = isum (fun j => m 1 j 2) (ix (m 0 0 0))
section SND
variable {m m' n n' : Mem} {w v v' : Int32} {j p q k t i z : Nat}
theorem IN.st (h : IN m) (hj : j < ix (m 0 0 0)) : m 1 j 1 = -1 ∨ ∃ p, p < ix (m 0 0 2) ∧ m 1 j 1 = nI p := h.2.1.2.2 j hj
theorem pf_j (hI : IN m) (hj : j < ix (m 0 0 0)) : x_X1_isPushedFrom m (nI j) = true ↔ PF m j := by
  have b := hI.ns.2
  rw [x_X1_isPushedFrom_eq]
  unfold y_X1_isPushedFrom PF
  rw [if_neg (nI_pos (by omega)), if_pos (by rw [hI.ns.1]; exact nI_lt (by omega) (by omega)), ix_nI (by omega)]
  by_cases h1 : m 1 j 1 = -1
  · simp [h1]
  · by_cases h2 : m 3 (ix (m 1 j 1)) 5 = 4
    · simp [h1, h2]
    · simp [h1, h2]
theorem pf_dn (hI : IN m) (hj : j < ix (m 0 0 0)) : x_X1_isPushedFrom m (nI j - 1) = true ↔ ∃ i, i + 1 = j ∧ PF m i := by
  have b := hI.ns.2
  match j, hj with
  | 0, _ =>
    rw [x_X1_isPushedFrom_eq]
    unfold y_X1_isPushedFrom
    rw [if_pos (by decide)]
    exact ⟨fun h => Bool.noConfusion h, fun ⟨i, h, _⟩ => absurd h (by omega)⟩
  | i + 1, hj =>
    rw [show nI (i + 1) - 1 = nI i from pk_sub (b := 1) (by omega), pf_j hI (by omega)]
    exact ⟨fun h => ⟨i, rfl, h⟩, fun ⟨i', h, g⟩ => by
      have : i' = i := by omega
      subst this
      exact g⟩
theorem pf_up (hI : IN m) (hj : j < ix (m 0 0 0)) : x_X1_isPushedFrom m (nI j + 1) = true ↔ j + 1 < ix (m 0 0 0) ∧ PF m (j + 1) := by
  have b := hI.ns.2
  rw [nI_1]
  by_cases h : j + 1 < ix (m 0 0 0)
  · rw [pf_j hI h]
    exact ⟨fun g => ⟨h, g⟩, fun g => g.2⟩
  · rw [x_X1_isPushedFrom_eq]
    unfold y_X1_isPushedFrom
    rw [if_neg (nI_pos (by omega)), if_neg (by rw [hI.ns.1]; exact nI_nlt (by omega) (by omega))]
    exact ⟨fun z => Bool.noConfusion z, fun g => absurd g.1 h⟩
theorem pf_tw (h : TWN m m') (hI : IN m) (hj : j < 4) : PF m' (3 - j) ↔ PF m j := by
  unfold PF
  rw [h.s hj (by decide)]
  rcases hI.st (j := j) (by rw [h.ns]; exact hj) with e | ⟨p, hp, e⟩
  · rw [e]
    exact ⟨fun g => absurd rfl g.1, fun g => absurd rfl g.1⟩
  · have b := hI.na.2
    rw [e, ix_nI (by omega), h.a hp (by decide) (by decide)]
theorem osb_tw (h : TWN m m') (hp : p < ix (m 0 0 2)) : x_X0_isOnStandOrBay m' p = x_X0_isOnStandOrBay m p := by
  rw [x_X0_isOnStandOrBay_eq]
  unfold y_X0_isOnStandOrBay
  rw [h.a hp (by decide) (by decide)]
theorem cur_tw (h : TWN m m') : x_X1_isCurfew m' = x_X1_isCurfew m := by
  rw [x_X1_isCurfew_eq]
  unfold y_X1_isCurfew
  rw [h.c (by decide), h.c (by decide), h.c (by decide)]
theorem tn_tw (h : TWN m m') (hp : p < ix (m 0 0 2)) : x_X1_turn m' p = x_X1_turn m p := by
  rw [x_X1_turn_eq]
  unfold y_X1_turn
  rw [h.a hp (by decide) (by decide)]
theorem tv_m1 (h : TWN m m') (hd : DS m) : (x_X1_freeTugFor m' w = -1) ↔ x_X1_freeTugFor m w = -1 := by
  rw [ft_tw h hd]
  rcases ft_spec (m := m) (w := w) (by rw [h.nt]; omega) with ⟨e, -⟩ | ⟨i, hi, e, -⟩
  · rw [e]
    exact Iff.rfl
  · rw [h.nt] at hi
    rw [e, tv_j hi]
    exact ⟨fun g => absurd g (nI_n1 (by omega)), fun g => absurd g (nI_n1 (by omega))⟩
theorem re_tw (h : TWN m m') (hI : IN m) (hI' : IN m') (hd : DS m) (hp : p < ix (m 0 0 2)) : x_X1_reason m' p = x_X1_reason m p := by
  have n := h.ns
  have n' := h.ns'
  rw [x_X1_reason_eq]
  unfold y_X1_reason
  rw [osb_tw h hp, cur_tw h, h.a6 hp, h.a hp (k := 5) (by decide) (by decide), h.a hp (k := 3) (by decide) (by decide), h.a hp (k := 1) (by decide) (by decide), h.c (z := 3) (by decide)]
  have ft : ∀ a b : Int32, (if x_X1_freeTugFor m' (m 3 p 1) = -1 then a else b) = if x_X1_freeTugFor m (m 3 p 1) = -1 then a else b := fun a b => by
    by_cases g : x_X1_freeTugFor m (m 3 p 1) = -1
    · rw [if_pos g, if_pos ((tv_m1 h hd).mpr g)]
    · rw [if_neg g, if_neg (fun z => g ((tv_m1 h hd).mp z))]
  rw [ft]
  have key : (if tu (m 3 p 6) = -1 then (if x_X1_freeTugFor m (m 3 p 1) = -1 then (7 : Int32) else 0) else if x_X1_isPushedFrom m' (tu (m 3 p 6) - 1) = true then 6 else if x_X1_isPushedFrom m' (tu (m 3 p 6) + 1) = true then 6 else if x_X1_freeTugFor m (m 3 p 1) = -1 then 7 else 0) = (if m 3 p 6 = -1 then (if x_X1_freeTugFor m (m 3 p 1) = -1 then (7 : Int32) else 0) else if x_X1_isPushedFrom m (m 3 p 6 - 1) = true then 6 else if x_X1_isPushedFrom m (m 3 p 6 + 1) = true then 6 else if x_X1_freeTugFor m (m 3 p 1) = -1 then 7 else 0) := by
    have pl : m 3 p 6 = -1 ∨ ∃ j, j < ix (m 0 0 0) ∧ m 3 p 6 = nI j := (hI.2.1.1 p hp).elim (fun e => Or.inl e.2) (fun e => Or.inr e.2)
    rcases pl with e | ⟨j, hj, e⟩
    · rw [e, tu_n, if_pos rfl, if_pos rfl]
    · rw [n] at hj
      rw [e, tu_j hj, if_neg (nI_n1 (by omega)), if_neg (nI_n1 (by omega))]
      have A : x_X1_isPushedFrom m' (nI (3 - j) - 1) = true ↔ x_X1_isPushedFrom m (nI j + 1) = true := by
        rw [pf_dn hI' (by omega), pf_up hI (by omega), n]
        constructor
        · rintro ⟨i, e, g⟩
          refine ⟨by omega, ?_⟩
          have : i = 3 - (j + 1) := by omega
          rw [this] at g
          exact (pf_tw h hI (by omega)).mp g
        · rintro ⟨l, g⟩
          exact ⟨3 - (j + 1), by omega, (pf_tw h hI (by omega)).mpr g⟩
      have B : x_X1_isPushedFrom m' (nI (3 - j) + 1) = true ↔ x_X1_isPushedFrom m (nI j - 1) = true := by
        rw [pf_up hI' (by omega), pf_dn hI (by omega), n']
        constructor
        · rintro ⟨l, g⟩
          refine ⟨j - 1, by omega, ?_⟩
          rw [show 3 - j + 1 = 3 - (j - 1) by omega] at g
          exact (pf_tw h hI (by omega)).mp g
        · rintro ⟨i, e, g⟩
          refine ⟨by omega, ?_⟩
          rw [show 3 - j + 1 = 3 - i by omega]
          exact (pf_tw h hI (by omega)).mpr g
      by_cases a : x_X1_isPushedFrom m (nI j + 1) = true
      · rw [if_pos (A.mpr a), if_pos a]
        split <;> rfl
      · rw [if_neg (fun z => a (A.mp z)), if_neg a]
        by_cases b : x_X1_isPushedFrom m (nI j - 1) = true
        · rw [if_pos (B.mpr b), if_pos b]
        · rw [if_neg (fun z => b (B.mp z)), if_neg b]
  rw [key]
theorem nl_tw (h : TWN m m') (hI : IN m) : x_X1_nextToLeave m' w = x_X1_nextToLeave m w := by
  have b := hI.na.2
  rw [x_X1_nextToLeave_eq]
  unfold y_X1_nextToLeave
  rw [lf_X1_nextToLeave_4_eq]
  unfold ly_X1_nextToLeave_4
  rw [h.c (z := 2) (by decide)]
  have q := itr_rel (n := ix (m 0 0 2)) (s := (-1 : Int32)) (t := (-1 : Int32)) (P := fun i c c' => c = c' ∧ (c = -1 ∨ ∃ p, p < ix (m 0 0 2) ∧ c = nI p)) (fun jz s => bd_X1_nextToLeave_4 m' w jz s) (fun jz s => bd_X1_nextToLeave_4 m w jz s) (fun i c c' hi g => ?_) ⟨rfl, Or.inl rfl⟩
  · exact q.1
  · obtain ⟨rfl, g⟩ := g
    show bd_X1_nextToLeave_4 m' w i c = bd_X1_nextToLeave_4 m w i c ∧ (bd_X1_nextToLeave_4 m' w i c = -1 ∨ ∃ p, p < ix (m 0 0 2) ∧ bd_X1_nextToLeave_4 m' w i c = nI p)
    have e : bd_X1_nextToLeave_4 m' w i c = bd_X1_nextToLeave_4 m w i c := by
      unfold bd_X1_nextToLeave_4
      rw [osb_tw h hi, tn_tw h hi, h.c (z := 3) (by decide), h.a hi (k := 3) (by decide) (by decide)]
      rcases g with e | ⟨p, hp, e⟩
      · simp only [e, if_true]
      · rw [e, ix_nI (by omega), tn_tw h hp]
    refine ⟨e, ?_⟩
    rw [e]
    unfold bd_X1_nextToLeave_4
    repeat' split
    all_goals first
      | exact g
      | exact Or.inr ⟨i, hi, rfl⟩
end SND
