/-! a field, and the same field with stands and tugs numbered from the last one to the first one -/
def tu (x : Int32) : Int32 := if x = -1 then -1 else 3 - x
def TWN (m m' : Mem) : Prop := (∀ z, z < 6 → m' 0 0 z = m 0 0 z) ∧ (m 0 0 0 = 4 ∧ m 0 0 1 = 3) ∧ (∀ j k, j < 4 → k < 3 → m' 1 (3 - j) k = m 1 j k) ∧ (∀ t k, t < 3 → k < 5 → m' 2 (2 - t) k = m 2 t k) ∧ (∀ p k, p < ix (m 0 0 2) → k < 10 → m' 3 p k = if k = 6 then tu (m 3 p 6) else m 3 p k) ∧ m' 4 0 0 = m 4 0 0
/-- spans differ, strengths differ -/
def DS (m : Mem) : Prop := (∀ i j, i < ix (m 0 0 0) → j < ix (m 0 0 0) → m 1 i 0 = m 1 j 0 → i = j) ∧ ∀ i j, i < ix (m 0 0 1) → j < ix (m 0 0 1) → m 2 i 0 = m 2 j 0 → i = j
/-- what is looked at is the same -/
def EQ (m n : Mem) : Prop := (∀ z, z < 6 → n 0 0 z = m 0 0 z) ∧ (∀ j k, j < ix (m 0 0 0) → k < 3 → n 1 j k = m 1 j k) ∧ (∀ t k, t < ix (m 0 0 1) → k < 5 → n 2 t k = m 2 t k) ∧ (∀ p k, p < ix (m 0 0 2) → k < 10 → n 3 p k = m 3 p k) ∧ n 4 0 0 = m 4 0 0
theorem tu_n : tu (-1) = -1 := rfl
theorem tu_j {j : Nat} (h : j < 4) : tu (nI j) = nI (3 - j) := by
  unfold tu
  rw [if_neg (nI_n1 (by omega)), show (3 : Int32) = nI 3 from rfl]
  exact pk_sub (by omega)
section TWS
variable {m m' n n' : Mem} {w v v' : Int32} {j p q k t i z : Nat}
theorem TWN.c (h : TWN m m') (hz : z < 6) : m' 0 0 z = m 0 0 z := h.1 z hz
theorem TWN.ns (h : TWN m m') : ix (m 0 0 0) = 4 := by rw [h.2.1.1]; rfl
theorem TWN.nt (h : TWN m m') : ix (m 0 0 1) = 3 := by rw [h.2.1.2]; rfl
theorem TWN.ns' (h : TWN m m') : ix (m' 0 0 0) = 4 := by rw [h.c (by decide), h.ns]
theorem TWN.nt' (h : TWN m m') : ix (m' 0 0 1) = 3 := by rw [h.c (by decide), h.nt]
theorem TWN.s (h : TWN m m') (hj : j < 4) (hk : k < 3) : m' 1 (3 - j) k = m 1 j k := h.2.2.1 j k hj hk
theorem TWN.s' (h : TWN m m') (hj : j < 4) (hk : k < 3) : m' 1 j k = m 1 (3 - j) k := by
  have := h.s (j := 3 - j) (k := k) (by omega) hk
  rw [show 3 - (3 - j) = j by omega] at this
  exact this
theorem TWN.u (h : TWN m m') (ht : t < 3) (hk : k < 5) : m' 2 (2 - t) k = m 2 t k := h.2.2.2.1 t k ht hk
theorem TWN.u' (h : TWN m m') (ht : t < 3) (hk : k < 5) : m' 2 t k = m 2 (2 - t) k := by
  have := h.u (t := 2 - t) (k := k) (by omega) hk
  rw [show 2 - (2 - t) = t by omega] at this
  exact this
theorem TWN.a (h : TWN m m') (hp : p < ix (m 0 0 2)) (hk : k < 10) (h6 : k ≠ 6) : m' 3 p k = m 3 p k := (h.2.2.2.2.1 p k hp hk).trans (if_neg h6)
theorem TWN.a6 (h : TWN m m') (hp : p < ix (m 0 0 2)) : m' 3 p 6 = tu (m 3 p 6) := (h.2.2.2.2.1 p 6 hp (by decide)).trans (if_pos rfl)
theorem TWN.l (h : TWN m m') : m' 4 0 0 = m 4 0 0 := h.2.2.2.2.2
/-! writes on both sides -/
theorem TWN.wA (h : TWN m m') (hk : k ≠ 6) : TWN (up3 m 3 p k v) (up3 m' 3 p k v) := by
  refine ⟨fun z hz => ?_, ?_, fun j q hj hq => ?_, fun t q ht hq => ?_, fun r q hr hq => ?_, ?_⟩
  · rw [up3_ne (by omega), up3_ne (by omega)]
    exact h.1 z hz
  · rw [up3_ne (by omega), up3_ne (by omega)]
    exact h.2.1
  · rw [up3_ne (by omega), up3_ne (by omega)]
    exact h.s hj hq
  · rw [up3_ne (by omega), up3_ne (by omega)]
    exact h.u ht hq
  · rw [up3_ne (f' := 0) (by omega)] at hr
    have e := h.2.2.2.2.1 r q hr hq
    rw [up3_ne (k' := 6) (by omega)]
    by_cases g : r = p ∧ q = k
    · obtain ⟨rfl, rfl⟩ := g
      rw [up3_self, up3_self, if_neg hk]
    · rw [up3_ne (by omega), up3_ne (by omega)]
      exact e
  · rw [up3_ne (by omega), up3_ne (by omega)]
    exact h.l
theorem TWN.w6 (h : TWN m m') (hv : v' = tu v) : TWN (up3 m 3 p 6 v) (up3 m' 3 p 6 v') := by
  refine ⟨fun z hz => ?_, ?_, fun j q hj hq => ?_, fun t q ht hq => ?_, fun r q hr hq => ?_, ?_⟩
  · rw [up3_ne (by omega), up3_ne (by omega)]
    exact h.1 z hz
  · rw [up3_ne (by omega), up3_ne (by omega)]
    exact h.2.1
  · rw [up3_ne (by omega), up3_ne (by omega)]
    exact h.s hj hq
  · rw [up3_ne (by omega), up3_ne (by omega)]
    exact h.u ht hq
  · rw [up3_ne (f' := 0) (by omega)] at hr
    have e := h.2.2.2.2.1 r q hr hq
    by_cases g : r = p
    · subst g
      by_cases g6 : q = 6
      · subst g6
        rw [up3_self, up3_self, if_pos rfl]
        exact hv
      · rw [up3_ne (by omega), up3_self, up3_ne (by omega), if_neg g6]
        rw [if_neg g6] at e
        exact e
    · rw [up3_ne (by omega), up3_ne (by omega), up3_ne (by omega)]
      exact e
  · rw [up3_ne (by omega), up3_ne (by omega)]
    exact h.l
theorem TWN.wS (h : TWN m m') (hi : i < 4) : TWN (up3 m 1 i k v) (up3 m' 1 (3 - i) k v) := by
  refine ⟨fun z hz => ?_, ?_, fun j q hj hq => ?_, fun t q ht hq => ?_, fun r q hr hq => ?_, ?_⟩
  · rw [up3_ne (by omega), up3_ne (by omega)]
    exact h.1 z hz
  · rw [up3_ne (by omega), up3_ne (by omega)]
    exact h.2.1
  · by_cases g : j = i ∧ q = k
    · obtain ⟨rfl, rfl⟩ := g
      rw [up3_self, up3_self]
    · rw [up3_ne (by omega), up3_ne (by omega)]
      exact h.s hj hq
  · rw [up3_ne (by omega), up3_ne (by omega)]
    exact h.u ht hq
  · rw [up3_ne (f' := 0) (by omega)] at hr
    rw [up3_ne (by omega), up3_ne (by omega), up3_ne (by omega)]
    exact h.2.2.2.2.1 r q hr hq
  · rw [up3_ne (by omega), up3_ne (by omega)]
    exact h.l
theorem TWN.wT (h : TWN m m') (hi : i < 3) : TWN (up3 m 2 i k v) (up3 m' 2 (2 - i) k v) := by
  refine ⟨fun z hz => ?_, ?_, fun j q hj hq => ?_, fun t q ht hq => ?_, fun r q hr hq => ?_, ?_⟩
  · rw [up3_ne (by omega), up3_ne (by omega)]
    exact h.1 z hz
  · rw [up3_ne (by omega), up3_ne (by omega)]
    exact h.2.1
  · rw [up3_ne (by omega), up3_ne (by omega)]
    exact h.s hj hq
  · by_cases g : t = i ∧ q = k
    · obtain ⟨rfl, rfl⟩ := g
      rw [up3_self, up3_self]
    · rw [up3_ne (by omega), up3_ne (by omega)]
      exact h.u ht hq
  · rw [up3_ne (f' := 0) (by omega)] at hr
    rw [up3_ne (by omega), up3_ne (by omega), up3_ne (by omega)]
    exact h.2.2.2.2.1 r q hr hq
  · rw [up3_ne (by omega), up3_ne (by omega)]
    exact h.l
theorem TWN.wF (h : TWN m m') (hk : 3 ≤ k) : TWN (up3 m 0 0 k v) (up3 m' 0 0 k v) := by
  refine ⟨fun z hz => ?_, ?_, fun j q hj hq => ?_, fun t q ht hq => ?_, fun r q hr hq => ?_, ?_⟩
  · by_cases g : z = k
    · subst g
      rw [up3_self, up3_self]
    · rw [up3_ne (by omega), up3_ne (by omega)]
      exact h.1 z hz
  · rw [up3_ne (by omega), up3_ne (by omega)]
    exact h.2.1
  · rw [up3_ne (by omega), up3_ne (by omega)]
    exact h.s hj hq
  · rw [up3_ne (by omega), up3_ne (by omega)]
    exact h.u ht hq
  · rw [up3_ne (f' := 0) (by omega)] at hr
    rw [up3_ne (by omega), up3_ne (by omega), up3_ne (by omega)]
    exact h.2.2.2.2.1 r q hr hq
  · rw [up3_ne (by omega), up3_ne (by omega)]
    exact h.l
/-- the same rows of stands, tugs and aircraft and as many events -/
theorem TWN.of4 (h : TWN m m') (e : ∀ f, f < 4 → n f = m f) (e' : ∀ f, f < 4 → n' f = m' f) (hl : n' 4 0 0 = n 4 0 0) : TWN n n' := by
  refine ⟨fun z hz => ?_, ?_, fun j q hj hq => ?_, fun t q ht hq => ?_, fun r q hr hq => ?_, hl⟩
  · rw [e 0 (by decide), e' 0 (by decide)]
    exact h.1 z hz
  · rw [e 0 (by decide)]
    exact h.2.1
  · rw [e 1 (by decide), e' 1 (by decide)]
    exact h.s hj hq
  · rw [e 2 (by decide), e' 2 (by decide)]
    exact h.u ht hq
  · rw [e 0 (by decide)] at hr
    rw [e 3 (by decide), e' 3 (by decide)]
    exact h.2.2.2.2.1 r q hr hq
theorem TWN.put {a b c a' b' c' : Int32} (h : TWN m m') : TWN (x_X2_put m a b c) (x_X2_put m' a' b' c') :=
  h.of4 (fun f hf => put_f hf) (fun f hf => put_f hf) (by rw [put_4, put_4, h.l])
theorem TWN.buses (h : TWN m m') (hp : p < ix (m 0 0 2)) : TWN (x_X0_takeBuses m p) (x_X0_takeBuses m' p) := by
  rw [x_X0_takeBuses_eq]
  unfold y_X0_takeBuses
  rw [h.a hp (by decide) (by decide), h.a hp (by decide) (by decide)]
  exact h.wA (by decide)
theorem TWN.take (h : TWN m m') (ht : t < 3) : TWN (x_X5_take m t w v) (x_X5_take m' (2 - t) w v) := by
  rw [x_X5_take_eq]
  unfold y_X5_take
  exact (h.wT ht).wT ht
theorem EQ.rf : EQ m m := ⟨fun _ _ => rfl, fun _ _ _ _ => rfl, fun _ _ _ _ => rfl, fun _ _ _ _ => rfl, rfl⟩
theorem EQ.copy : EQ m (x_X1_copyFrom n m) := by
  obtain ⟨c0, c1, c2, c3, c4, -⟩ := copy_of (m := n) (mo := m)
  exact ⟨c0, fun j k hj hk => c1 j k hj hk, fun t k ht hk => c2 t k ht hk, fun p k hp hk => c3 p k hp hk, c4⟩
theorem EQ.trans {o : Mem} (h : EQ m n) (g : EQ n o) : EQ m o := by
  have e0 := h.1 0 (by decide)
  have e1 := h.1 1 (by decide)
  have e2 := h.1 2 (by decide)
  refine ⟨fun z hz => (g.1 z hz).trans (h.1 z hz), fun j k hj hk => (g.2.1 j k (by rw [e0]; exact hj) hk).trans (h.2.1 j k hj hk), fun j k hj hk => (g.2.2.1 j k (by rw [e1]; exact hj) hk).trans (h.2.2.1 j k hj hk), fun j k hj hk => (g.2.2.2.1 j k (by rw [e2]; exact hj) hk).trans (h.2.2.2.1 j k hj hk), g.2.2.2.2.trans h.2.2.2.2⟩
theorem TWN.eq (h : TWN m m') (e : EQ m n) (e' : EQ m' n') : TWN n n' := by
  have e2 := e.1 2 (by decide)
  have d2 := h.c (z := 2) (by decide)
  refine ⟨fun z hz => ?_, ?_, fun j q hj hq => ?_, fun t q ht hq => ?_, fun r q hr hq => ?_, ?_⟩
  · rw [e.1 z hz, e'.1 z hz]
    exact h.1 z hz
  · rw [e.1 0 (by decide), e.1 1 (by decide)]
    exact h.2.1
  · rw [e.2.1 j q (by rw [h.ns]; exact hj) hq, e'.2.1 (3 - j) q (by rw [h.ns']; omega) hq]
    exact h.s hj hq
  · rw [e.2.2.1 t q (by rw [h.nt]; exact ht) hq, e'.2.2.1 (2 - t) q (by rw [h.nt']; omega) hq]
    exact h.u ht hq
  · rw [e2] at hr
    rw [e.2.2.2.1 r 6 hr (by decide), e.2.2.2.1 r q hr hq, e'.2.2.2.1 r q (by rw [d2]; exact hr) hq]
    exact h.2.2.2.2.1 r q hr hq
  · rw [e.2.2.2.2, e'.2.2.2.2]
    exact h.l
theorem DS.eq (h : DS m) (e : EQ m n) : DS n := by
  have e0 := e.1 0 (by decide)
  have e1 := e.1 1 (by decide)
  refine ⟨fun i j hi hj q => ?_, fun i j hi hj q => ?_⟩
  · rw [e0] at hi hj
    rw [e.2.1 i 0 hi (by decide), e.2.1 j 0 hj (by decide)] at q
    exact h.1 i j hi hj q
  · rw [e1] at hi hj
    rw [e.2.2.1 i 0 hi (by decide), e.2.2.1 j 0 hj (by decide)] at q
    exact h.2 i j hi hj q
/-! the free stand, the free tug -/
theorem fs_spec (hn : ix (m 0 0 0) ≤ 6) : (x_X1_freeStandFor m w = -1 ∧ ∀ j, j < ix (m 0 0 0) → m 1 j 1 = -1 → m 1 j 0 < w) ∨ ∃ i, i < ix (m 0 0 0) ∧ x_X1_freeStandFor m w = nI i ∧ m 1 i 1 = -1 ∧ ¬ m 1 i 0 < w ∧ ∀ j, j < ix (m 0 0 0) → m 1 j 1 = -1 → ¬ m 1 j 0 < w → ¬ m 1 j 0 < m 1 i 0 := by
  rw [x_X1_freeStandFor_eq]
  unfold y_X1_freeStandFor
  rw [lf_X1_freeStandFor_4_eq]
  unfold ly_X1_freeStandFor_4
  refine itr_inv (n := ix (m 0 0 0)) (s := (-1 : Int32)) (P := fun i c => (c = -1 ∧ ∀ j, j < i → m 1 j 1 = -1 → m 1 j 0 < w) ∨ ∃ i', i' < i ∧ c = nI i' ∧ m 1 i' 1 = -1 ∧ ¬ m 1 i' 0 < w ∧ ∀ j, j < i → m 1 j 1 = -1 → ¬ m 1 j 0 < w → ¬ m 1 j 0 < m 1 i' 0) (fun jz s => bd_X1_freeStandFor_4 m w jz s) (fun i c hi g => ?_) (Or.inl ⟨rfl, fun j hj => absurd hj (Nat.not_lt_zero j)⟩)
  show (bd_X1_freeStandFor_4 m w i c = -1 ∧ _) ∨ ∃ i', i' < i + 1 ∧ bd_X1_freeStandFor_4 m w i c = nI i' ∧ _
  unfold bd_X1_freeStandFor_4
  have lst : ∀ j, j < i + 1 → j < i ∨ j = i := fun j hj => by omega
  by_cases h1 : m 1 i 1 = -1
  · rw [if_pos h1]
    by_cases h2 : m 1 i 0 < w
    · rw [if_pos h2]
      rcases g with ⟨e, g⟩ | ⟨i', hi', e, g1, g2, g⟩
      · exact Or.inl ⟨e, fun j hj hf => (lst j hj).elim (fun y => g j y hf) (fun y => by rw [y]; exact h2)⟩
      · exact Or.inr ⟨i', by omega, e, g1, g2, fun j hj hf hw => (lst j hj).elim (fun y => g j y hf hw) (fun y => absurd (by rw [y]; exact h2) hw)⟩
    · rw [if_neg h2]
      rcases g with ⟨e, g⟩ | ⟨i', hi', e, g1, g2, g⟩
      · rw [if_pos e]
        exact Or.inr ⟨i, Nat.lt_succ_self i, rfl, h1, h2, fun j hj hf hw => (lst j hj).elim (fun y => absurd (g j y hf) hw) (fun y => by rw [y]; exact Int32.lt_irrefl)⟩
      · rw [if_neg (by rw [e]; exact nI_n1 (by omega)), e, ix_nI (by omega)]
        by_cases h3 : m 1 i 0 < m 1 i' 0
        · rw [if_pos h3]
          exact Or.inr ⟨i, Nat.lt_succ_self i, rfl, h1, h2, fun j hj hf hw => (lst j hj).elim (fun y z => g j y hf hw (Int32.lt_trans z h3)) (fun y => by rw [y]; exact Int32.lt_irrefl)⟩
        · rw [if_neg h3]
          exact Or.inr ⟨i', by omega, rfl, g1, g2, fun j hj hf hw => (lst j hj).elim (fun y => g j y hf hw) (fun y => by rw [y]; exact h3)⟩
  · rw [if_neg h1]
    rcases g with ⟨e, g⟩ | ⟨i', hi', e, g1, g2, g⟩
    · exact Or.inl ⟨e, fun j hj hf => (lst j hj).elim (fun y => g j y hf) (fun y => absurd (by rw [← y]; exact hf) h1)⟩
    · exact Or.inr ⟨i', by omega, e, g1, g2, fun j hj hf hw => (lst j hj).elim (fun y => g j y hf hw) (fun y => absurd (by rw [← y]; exact hf) h1)⟩
theorem ft_spec (hn : ix (m 0 0 1) ≤ 3) : (x_X1_freeTugFor m w = -1 ∧ ∀ j, j < ix (m 0 0 1) → m 2 j 1 = -1 → m 2 j 0 < w) ∨ ∃ i, i < ix (m 0 0 1) ∧ x_X1_freeTugFor m w = nI i ∧ m 2 i 1 = -1 ∧ ¬ m 2 i 0 < w ∧ ∀ j, j < ix (m 0 0 1) → m 2 j 1 = -1 → ¬ m 2 j 0 < w → ¬ m 2 j 0 < m 2 i 0 := by
  rw [x_X1_freeTugFor_eq]
  unfold y_X1_freeTugFor
  rw [lf_X1_freeTugFor_4_eq]
  unfold ly_X1_freeTugFor_4
  refine itr_inv (n := ix (m 0 0 1)) (s := (-1 : Int32)) (P := fun i c => (c = -1 ∧ ∀ j, j < i → m 2 j 1 = -1 → m 2 j 0 < w) ∨ ∃ i', i' < i ∧ c = nI i' ∧ m 2 i' 1 = -1 ∧ ¬ m 2 i' 0 < w ∧ ∀ j, j < i → m 2 j 1 = -1 → ¬ m 2 j 0 < w → ¬ m 2 j 0 < m 2 i' 0) (fun jz s => bd_X1_freeTugFor_4 m w jz s) (fun i c hi g => ?_) (Or.inl ⟨rfl, fun j hj => absurd hj (Nat.not_lt_zero j)⟩)
  show (bd_X1_freeTugFor_4 m w i c = -1 ∧ _) ∨ ∃ i', i' < i + 1 ∧ bd_X1_freeTugFor_4 m w i c = nI i' ∧ _
  unfold bd_X1_freeTugFor_4
  have lst : ∀ j, j < i + 1 → j < i ∨ j = i := fun j hj => by omega
  by_cases h1 : m 2 i 1 = -1
  · rw [if_pos h1]
    by_cases h2 : m 2 i 0 < w
    · rw [if_pos h2]
      rcases g with ⟨e, g⟩ | ⟨i', hi', e, g1, g2, g⟩
      · exact Or.inl ⟨e, fun j hj hf => (lst j hj).elim (fun y => g j y hf) (fun y => by rw [y]; exact h2)⟩
      · exact Or.inr ⟨i', by omega, e, g1, g2, fun j hj hf hw => (lst j hj).elim (fun y => g j y hf hw) (fun y => absurd (by rw [y]; exact h2) hw)⟩
    · rw [if_neg h2]
      rcases g with ⟨e, g⟩ | ⟨i', hi', e, g1, g2, g⟩
      · rw [if_pos e]
        exact Or.inr ⟨i, Nat.lt_succ_self i, rfl, h1, h2, fun j hj hf hw => (lst j hj).elim (fun y => absurd (g j y hf) hw) (fun y => by rw [y]; exact Int32.lt_irrefl)⟩
      · rw [if_neg (by rw [e]; exact nI_n1 (by omega)), e, ix_nI (by omega)]
        by_cases h3 : m 2 i 0 < m 2 i' 0
        · rw [if_pos h3]
          exact Or.inr ⟨i, Nat.lt_succ_self i, rfl, h1, h2, fun j hj hf hw => (lst j hj).elim (fun y z => g j y hf hw (Int32.lt_trans z h3)) (fun y => by rw [y]; exact Int32.lt_irrefl)⟩
        · rw [if_neg h3]
          exact Or.inr ⟨i', by omega, rfl, g1, g2, fun j hj hf hw => (lst j hj).elim (fun y => g j y hf hw) (fun y => by rw [y]; exact h3)⟩
  · rw [if_neg h1]
    rcases g with ⟨e, g⟩ | ⟨i', hi', e, g1, g2, g⟩
    · exact Or.inl ⟨e, fun j hj hf => (lst j hj).elim (fun y => g j y hf) (fun y => absurd (by rw [← y]; exact hf) h1)⟩
    · exact Or.inr ⟨i', by omega, e, g1, g2, fun j hj hf hw => (lst j hj).elim (fun y => g j y hf hw) (fun y => absurd (by rw [← y]; exact hf) h1)⟩
theorem fs_tw (h : TWN m m') (hd : DS m) : x_X1_freeStandFor m' w = tu (x_X1_freeStandFor m w) := by
  have n := h.ns
  have n' := h.ns'
  rcases fs_spec (m := m) (w := w) (by omega) with ⟨e, g⟩ | ⟨i, hi, e, g1, g2, g3⟩
  · rcases fs_spec (m := m') (w := w) (by omega) with ⟨e', g'⟩ | ⟨i', hi', e', g1', g2', g3'⟩
    · rw [e, e']
      rfl
    · rw [n'] at hi'
      rw [h.s' hi' (by decide)] at g1' g2'
      exact absurd (g (3 - i') (by omega) g1') g2'
  · rw [n] at hi
    rcases fs_spec (m := m') (w := w) (by omega) with ⟨e', g'⟩ | ⟨i', hi', e', g1', g2', g3'⟩
    · have a1 : m' 1 (3 - i) 1 = -1 := (h.s hi (by decide)).trans g1
      have := g' (3 - i) (by omega) a1
      rw [h.s hi (by decide)] at this
      exact absurd this g2
    · rw [n'] at hi'
      have b1 := g1'
      have b2 := g2'
      rw [h.s' hi' (by decide)] at b1 b2
      have c1 := g3 (3 - i') (by omega) b1 b2
      have c2 := g3' (3 - i) (by omega) ((h.s hi (by decide)).trans g1) (by rw [h.s hi (by decide)]; exact g2)
      rw [h.s hi (by decide), h.s' hi' (by decide)] at c2
      have e3 := hd.1 (3 - i') i (by omega) (by omega) (Int32.le_antisymm (Int32.not_lt.mp c2) (Int32.not_lt.mp c1))
      rw [e, e', tu_j hi]
      congr 1
      omega
/-- a tug's number from the other end -/
def tv3 (x : Int32) : Int32 := if x = -1 then -1 else 2 - x
theorem tv_j (h : j < 3) : tv3 (nI j) = nI (2 - j) := by
  unfold tv3
  rw [if_neg (nI_n1 (by omega)), show (2 : Int32) = nI 2 from rfl]
  exact pk_sub (by omega)
theorem ft_tw (h : TWN m m') (hd : DS m) : x_X1_freeTugFor m' w = tv3 (x_X1_freeTugFor m w) := by
  have n := h.nt
  have n' := h.nt'
  rcases ft_spec (m := m) (w := w) (by omega) with ⟨e, g⟩ | ⟨i, hi, e, g1, g2, g3⟩
  · rcases ft_spec (m := m') (w := w) (by omega) with ⟨e', g'⟩ | ⟨i', hi', e', g1', g2', g3'⟩
    · rw [e, e']
      rfl
    · rw [n'] at hi'
      rw [h.u' hi' (by decide)] at g1' g2'
      exact absurd (g (2 - i') (by omega) g1') g2'
  · rw [n] at hi
    rcases ft_spec (m := m') (w := w) (by omega) with ⟨e', g'⟩ | ⟨i', hi', e', g1', g2', g3'⟩
    · have a1 : m' 2 (2 - i) 1 = -1 := (h.u hi (by decide)).trans g1
      have := g' (2 - i) (by omega) a1
      rw [h.u hi (by decide)] at this
      exact absurd this g2
    · rw [n'] at hi'
      have b1 := g1'
      have b2 := g2'
      rw [h.u' hi' (by decide)] at b1 b2
      have c1 := g3 (2 - i') (by omega) b1 b2
      have c2 := g3' (2 - i) (by omega) ((h.u hi (by decide)).trans g1) (by rw [h.u hi (by decide)]; exact g2)
      rw [h.u hi (by decide), h.u' hi' (by decide)] at c2
      have e3 := hd.2 (2 - i') i (by omega) (by omega) (Int32.le_antisymm (Int32.not_lt.mp c2) (Int32.not_lt.mp c1))
      rw [e, e', tv_j hi]
      congr 1
      omega
end TWS
