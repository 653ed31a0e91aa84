/-! the class's field against the model's row: values -/
def bsum (m : Mem) : Nat → Int32
  | 0 => 0
  | N + 1 => bsum m N + m 3 N 9
def RLg (m : Mem) (a : Nat → Int32) : Prop := a 7 = nI (min (ix (m 4 0 0)) 30) ∧ ∀ i, i < min (ix (m 4 0 0)) 30 → m 5 0 ((ix (m 4 0 0) - 1 - i) % 30) = a (155 + 3 * i) ∧ m 6 0 ((ix (m 4 0 0) - 1 - i) % 30) = a (155 + 3 * i + 1) ∧ m 7 0 ((ix (m 4 0 0) - 1 - i) % 30) = a (155 + 3 * i + 2)
def RV (m : Mem) (a : Nat → Int32) : Prop :=
  (∀ k, k < 6 → m 0 0 k = a k) ∧
  (∀ j, j < ix (m 0 0 0) → m 1 j 0 = a (8 + 2 * j + 0) ∧ m 1 j 2 = a (8 + 2 * j + 1)) ∧
  (∀ j k, j < ix (m 0 0 1) → k < 5 → m 2 j k = a (20 + 5 * j + k)) ∧
  (∀ j k, j < ix (m 0 0 2) → k < 10 → m 3 j k = a (35 + 10 * j + k)) ∧
  RLg m a ∧ bsum m (ix (m 0 0 2)) = a 6
/-! what the field keeps -/
def HP (x : Int32) : Prop := x = 1 ∨ x = 3 ∨ x = 4
def PL (ns : Nat) (P s : Int32) : Prop := ((P = 0 ∨ P = 2 ∨ P = 5 ∨ P = 4) ∧ s = -1) ∨ (HP P ∧ ∃ j, j < ns ∧ s = nI j)
def HJ (ns na : Nat) (P s σ : Nat → Int32) : Prop := (∀ p, p < na → PL ns (P p) (s p)) ∧ (∀ j p, j < ns → p < na → ((HP (P p) ∧ s p = nI j) ↔ σ j = nI p)) ∧ ∀ j, j < ns → σ j = -1 ∨ ∃ p, p < na ∧ σ j = nI p
def IT (nt na : Nat) (m : Mem) : Prop := ∀ t, t < nt → (m 2 t 1 = -1 ∨ ∃ p, p < na ∧ m 2 t 1 = nI p) ∧ VN 10 (m 2 t 2) ∧ (¬ m 2 t 1 = -1 → ¬ m 2 t 2 = 0)
def IQ (na : Nat) (m : Mem) : Prop := ∀ p, p < na → VN 1999 (m 3 p 2) ∧ VN 1999 (m 3 p 3) ∧ (m 3 p 7 = -1 ∨ VN 20000 (m 3 p 7))
def IC (m : Mem) : Prop := VN 6 (m 0 0 0) ∧ VN 3 (m 0 0 1) ∧ VN 12 (m 0 0 2) ∧ VN 13000 (m 0 0 3) ∧ VN 1440 (m 0 0 4) ∧ VN 1440 (m 0 0 5) ∧ ¬ m 0 0 0 = 0
def IN (m : Mem) : Prop := IC m ∧ HJ (ix (m 0 0 0)) (ix (m 0 0 2)) (fun p => m 3 p 5) (fun p => m 3 p 6) (fun j => m 1 j 1) ∧ IT (ix (m 0 0 1)) (ix (m 0 0 2)) m ∧ IQ (ix (m 0 0 2)) m
def RR (m μ : Mem) : Prop := RV m (μ 1 0) ∧ IN m
theorem IN.ns {m : Mem} (h : IN m) : VN 6 (m 0 0 0) := h.1.1
theorem IN.nt {m : Mem} (h : IN m) : VN 3 (m 0 0 1) := h.1.2.1
theorem IN.na {m : Mem} (h : IN m) : VN 12 (m 0 0 2) := h.1.2.2.1
theorem IN.mi {m : Mem} (h : IN m) : VN 13000 (m 0 0 3) := h.1.2.2.2.1
theorem RV.c {m : Mem} {a : Nat → Int32} (h : RV m a) {k : Nat} (hk : k < 6) : m 0 0 k = a k := h.1 k hk
theorem RV.s0 {m : Mem} {a : Nat → Int32} (h : RV m a) {j : Nat} (hj : j < ix (m 0 0 0)) : m 1 j 0 = a (8 + 2 * j + 0) := (h.2.1 j hj).1
theorem RV.s2 {m : Mem} {a : Nat → Int32} (h : RV m a) {j : Nat} (hj : j < ix (m 0 0 0)) : m 1 j 2 = a (8 + 2 * j + 1) := (h.2.1 j hj).2
theorem RV.t {m : Mem} {a : Nat → Int32} (h : RV m a) {j k : Nat} (hj : j < ix (m 0 0 1)) (hk : k < 5) : m 2 j k = a (20 + 5 * j + k) := h.2.2.1 j k hj hk
theorem RV.a {m : Mem} {a : Nat → Int32} (h : RV m a) {j k : Nat} (hj : j < ix (m 0 0 2)) (hk : k < 10) : m 3 j k = a (35 + 10 * j + k) := h.2.2.2.1 j k hj hk
theorem RV.l {m : Mem} {a : Nat → Int32} (h : RV m a) : RLg m a := h.2.2.2.2.1
theorem RV.b {m : Mem} {a : Nat → Int32} (h : RV m a) : bsum m (ix (m 0 0 2)) = a 6 := h.2.2.2.2.2
/-! writes on both sides -/
theorem up1 {m : Mem} {k q : Nat} {v : Int32} : up3 m 1 0 k v 1 0 q = if q = k then v else m 1 0 q := by
  by_cases h : q = k
  · subst h
    rw [up3_self, if_pos rfl]
  · rw [up3_k h, if_neg h]
theorem up3_sw {m : Mem} {f i k f' i' k' : Nat} {v v' : Int32} (h : f ≠ f') : up3 (up3 m f i k v) f' i' k' v' = up3 (up3 m f' i' k' v') f i k v := by
  funext a b c
  by_cases h1 : a = f ∧ b = i ∧ c = k
  · obtain ⟨rfl, rfl, rfl⟩ := h1
    rw [up3_ne (fun q => h q.1), up3_self, up3_self]
  · by_cases h2 : a = f' ∧ b = i' ∧ c = k'
    · obtain ⟨rfl, rfl, rfl⟩ := h2
      rw [up3_self, up3_ne h1, up3_self]
    · rw [up3_ne h2, up3_ne h1, up3_ne h1, up3_ne h2]
theorem up3_id {m : Mem} {f i k : Nat} : up3 m f i k (m f i k) = m := by
  funext a b c
  by_cases h1 : a = f ∧ b = i ∧ c = k
  · obtain ⟨rfl, rfl, rfl⟩ := h1
    rw [up3_self]
  · rw [up3_ne h1]
theorem bsum_up {m : Mem} {f i k : Nat} {v : Int32} (h : ¬ (f = 3 ∧ k = 9)) : ∀ N, bsum (up3 m f i k v) N = bsum m N
  | 0 => rfl
  | N + 1 => by
    show bsum _ N + up3 m f i k v 3 N 9 = bsum m N + m 3 N 9
    rw [bsum_up h N, up3_ne (fun q => h ⟨q.1.symm, q.2.2.symm⟩)]
theorem RLg.up {m : Mem} {a : Nat → Int32} {f i k : Nat} {v : Int32} (h : RLg m a) (hf : f < 4) : RLg (up3 m f i k v) a := by
  unfold RLg
  rw [up3_fam (show (4 : Nat) ≠ f by omega), up3_fam (show (5 : Nat) ≠ f by omega), up3_fam (show (6 : Nat) ≠ f by omega), up3_fam (show (7 : Nat) ≠ f by omega)]
  exact h
theorem RLg.upa {m : Mem} {μ : Mem} {k : Nat} {v : Int32} (h : RLg m (μ 1 0)) (hk : k < 155) (h7 : k ≠ 7) : RLg m (up3 μ 1 0 k v 1 0) := by
  refine ⟨?_, fun i hi => ?_⟩
  · rw [up3_k (Ne.symm h7)]
    exact h.1
  · rw [up3_k (by omega), up3_k (by omega), up3_k (by omega)]
    exact h.2 i hi
section RVS
variable {m μ : Mem} {p q j t k : Nat} {v : Int32}
/-- an aircraft's slot, but the buses -/
theorem RV.upA (h : RV m (μ 1 0)) (hn : ix (m 0 0 0) ≤ 6) (ht : ix (m 0 0 1) ≤ 3) (hp : p < 12) (hk : k < 9) : RV (up3 m 3 p k v) (up3 μ 1 0 (35 + 10 * p + k) v 1 0) := by
  have e0 : ∀ z, up3 m 3 p k v 0 0 z = m 0 0 z := fun z => up3_ne (by simp)
  refine ⟨fun z hz => ?_, fun z hz => ?_, fun y z hy hz => ?_, fun y z hy hz => ?_, (h.l.up (by decide)).upa (by omega) (by omega), ?_⟩
  · rw [e0, up3_k (by omega)]
    exact h.1 z hz
  · rw [e0] at hz
    rw [show up3 m 3 p k v 1 z = m 1 z from up3_rows (by omega), up3_k (by omega), up3_k (by omega)]
    exact h.2.1 z hz
  · rw [e0] at hy
    rw [up3_ne (by simp), up3_k (by omega)]
    exact h.2.2.1 y z hy hz
  · rw [e0] at hy
    by_cases e : y = p ∧ z = k
    · obtain ⟨rfl, rfl⟩ := e
      rw [up3_self, up3_self]
    · rw [up3_ne (fun q => e q.2), up3_k (by omega)]
      exact h.2.2.2.1 y z hy hz
  · rw [bsum_up (by omega), e0, up3_k (by omega)]
    exact h.b
theorem RV.upT (h : RV m (μ 1 0)) (hn : ix (m 0 0 0) ≤ 6) (ht : t < 3) (hk : k < 5) : RV (up3 m 2 t k v) (up3 μ 1 0 (20 + 5 * t + k) v 1 0) := by
  have e0 : ∀ z, up3 m 2 t k v 0 0 z = m 0 0 z := fun z => up3_ne (by simp)
  refine ⟨fun z hz => ?_, fun z hz => ?_, fun y z hy hz => ?_, fun y z hy hz => ?_, (h.l.up (by decide)).upa (by omega) (by omega), ?_⟩
  · rw [e0, up3_k (by omega)]
    exact h.1 z hz
  · rw [e0] at hz
    rw [show up3 m 2 t k v 1 z = m 1 z from up3_rows (by omega), up3_k (by omega), up3_k (by omega)]
    exact h.2.1 z hz
  · rw [e0] at hy
    by_cases e : y = t ∧ z = k
    · obtain ⟨rfl, rfl⟩ := e
      rw [up3_self, up3_self]
    · rw [up3_ne (fun q => e q.2), up3_k (by omega)]
      exact h.2.2.1 y z hy hz
  · rw [e0] at hy
    rw [up3_ne (by simp), up3_k (by omega)]
    exact h.2.2.2.1 y z hy hz
  · rw [bsum_up (by omega), e0, up3_k (by omega)]
    exact h.b
theorem RV.upS0 (h : RV m (μ 1 0)) (hj : j < 6) : RV (up3 m 1 j 0 v) (up3 μ 1 0 (8 + 2 * j + 0) v 1 0) := by
  have e0 : ∀ z, up3 m 1 j 0 v 0 0 z = m 0 0 z := fun z => up3_ne (by simp)
  refine ⟨fun z hz => ?_, fun z hz => ?_, fun y z hy hz => ?_, fun y z hy hz => ?_, (h.l.up (by decide)).upa (by omega) (by omega), ?_⟩
  · rw [e0, up3_k (by omega)]
    exact h.1 z hz
  · rw [e0] at hz
    rw [up3_ne (k' := 2) (by simp), up3_k (k' := 8 + 2 * z + 1) (by omega)]
    by_cases e : z = j
    · subst e
      rw [up3_self, up3_self]
      exact ⟨rfl, (h.2.1 z hz).2⟩
    · rw [up3_ne (fun q => e q.2.1), up3_k (by omega)]
      exact h.2.1 z hz
  · rw [e0] at hy
    rw [up3_ne (by simp), up3_k (by omega)]
    exact h.2.2.1 y z hy hz
  · rw [e0] at hy
    rw [up3_ne (by simp), up3_k (by omega)]
    exact h.2.2.2.1 y z hy hz
  · rw [bsum_up (by omega), e0, up3_k (by omega)]
    exact h.b
theorem RV.upS2 (h : RV m (μ 1 0)) (hj : j < 6) : RV (up3 m 1 j 2 v) (up3 μ 1 0 (8 + 2 * j + 1) v 1 0) := by
  have e0 : ∀ z, up3 m 1 j 2 v 0 0 z = m 0 0 z := fun z => up3_ne (by simp)
  refine ⟨fun z hz => ?_, fun z hz => ?_, fun y z hy hz => ?_, fun y z hy hz => ?_, (h.l.up (by decide)).upa (by omega) (by omega), ?_⟩
  · rw [e0, up3_k (by omega)]
    exact h.1 z hz
  · rw [e0] at hz
    rw [up3_ne (k' := 0) (by simp), up3_k (k' := 8 + 2 * z + 0) (by omega)]
    by_cases e : z = j
    · subst e
      rw [up3_self, up3_self]
      exact ⟨(h.2.1 z hz).1, rfl⟩
    · rw [up3_ne (fun q => e q.2.1), up3_k (by omega)]
      exact h.2.1 z hz
  · rw [e0] at hy
    rw [up3_ne (by simp), up3_k (by omega)]
    exact h.2.2.1 y z hy hz
  · rw [e0] at hy
    rw [up3_ne (by simp), up3_k (by omega)]
    exact h.2.2.2.1 y z hy hz
  · rw [bsum_up (by omega), e0, up3_k (by omega)]
    exact h.b
/-- what only the class writes: who is on a stand -/
theorem RV.upS1 {a : Nat → Int32} (h : RV m a) : RV (up3 m 1 j 1 v) a := by
  have e0 : ∀ z, up3 m 1 j 1 v 0 0 z = m 0 0 z := fun z => up3_ne (by simp)
  refine ⟨fun z hz => ?_, fun z hz => ?_, fun y z hy hz => ?_, fun y z hy hz => ?_, h.l.up (by decide), ?_⟩
  · rw [e0]
    exact h.1 z hz
  · rw [e0] at hz
    rw [up3_ne (by simp), up3_ne (by simp)]
    exact h.2.1 z hz
  · rw [e0] at hy
    rw [up3_ne (by simp)]
    exact h.2.2.1 y z hy hz
  · rw [e0] at hy
    rw [up3_ne (by simp)]
    exact h.2.2.2.1 y z hy hz
  · rw [bsum_up (by omega), e0]
    exact h.b
/-- the minute and the curfew -/
theorem RV.upF (h : RV m (μ 1 0)) (hk : k < 6) (h3 : 3 ≤ k) (hn : ix (m 0 0 0) ≤ 6) : RV (up3 m 0 0 k v) (up3 μ 1 0 k v 1 0) := by
  have e0 : ∀ z, z < 3 → up3 m 0 0 k v 0 0 z = m 0 0 z := fun z hz => up3_ne (by omega)
  refine ⟨fun z hz => ?_, fun z hz => ?_, fun y z hy hz => ?_, fun y z hy hz => ?_, (h.l.up (by decide)).upa (by omega) (by omega), ?_⟩
  · by_cases e : z = k
    · subst e
      rw [up3_self, up3_self]
    · rw [up3_ne (by omega), up3_k (by omega)]
      exact h.1 z hz
  · rw [e0 _ (by decide)] at hz
    rw [show up3 m 0 0 k v 1 z = m 1 z from up3_rows (by omega), up3_k (by omega), up3_k (by omega)]
    exact h.2.1 z hz
  · rw [e0 _ (by decide)] at hy
    rw [up3_ne (by simp), up3_k (by omega)]
    exact h.2.2.1 y z hy hz
  · rw [e0 _ (by decide)] at hy
    rw [up3_ne (by simp), up3_k (by omega)]
    exact h.2.2.2.1 y z hy hz
  · rw [bsum_up (by omega), e0 _ (by decide), up3_k (by omega)]
    exact h.b
theorem bsum_at (hp : p < 12) : ∀ N, p < N → bsum (up3 m 3 p 9 (m 3 p 9 + v)) N = bsum m N + v
  | 0, h => absurd h (Nat.not_lt_zero p)
  | N + 1, h => by
    show bsum _ N + up3 m 3 p 9 (m 3 p 9 + v) 3 N 9 = bsum m N + m 3 N 9 + v
    by_cases e : N = p
    · subst e
      have e2 : ∀ K, K ≤ N → bsum (up3 m 3 N 9 (m 3 N 9 + v)) K = bsum m K := by
        intro K
        induction K with
        | zero => exact fun _ => rfl
        | succ K ih =>
          intro hK
          show bsum _ K + up3 m 3 N 9 (m 3 N 9 + v) 3 K 9 = bsum m K + m 3 K 9
          rw [ih (by omega), up3_ne (by omega)]
      rw [e2 N (Nat.le_refl N), up3_self, Int32.add_assoc]
    · rw [bsum_at hp N (by omega), up3_ne (by omega), Int32.add_assoc, Int32.add_comm v, ← Int32.add_assoc]
theorem RV.buses (h : RV m (μ 1 0)) (hn : ix (m 0 0 0) ≤ 6) (ht : ix (m 0 0 1) ≤ 3) (hN : ix (m 0 0 2) ≤ 12) (hp : p < ix (m 0 0 2)) : RV (x_X0_takeBuses m p) (x_X7_buses μ p 1 0) := by
  have e4 : m 3 p 4 = μ 1 0 (35 + 10 * p + 4) := h.a hp (by decide)
  have e9 : m 3 p 9 = μ 1 0 (35 + 10 * p + 9) := h.a hp (by decide)
  have eo : x_X7_of μ p 4 = μ 1 0 (35 + 10 * p + 4) := by
    rw [x_X7_of_eq]
    rfl
  have ev : (m 3 p 4 + 50 - 1) / 50 = (x_X7_of μ p 4 + 49) / 50 := by
    rw [eo, ← e4]
    congr 1
    rw [Int32.sub_eq_add_neg, Int32.add_assoc]
    rfl
  rw [x_X0_takeBuses_eq, x_X7_buses_eq]
  unfold y_X0_takeBuses y_X7_buses
  rw [ev]
  generalize (x_X7_of μ p 4 + 49) / 50 = v
  have e0 : ∀ w z, up3 m 3 p 9 w 0 0 z = m 0 0 z := fun w z => up3_ne (by simp)
  refine ⟨fun z hz => ?_, fun z hz => ?_, fun y z hy hz => ?_, fun y z hy hz => ?_, ?_, ?_⟩
  · rw [e0, up3_k (by omega), up3_k (by omega)]
    exact h.1 z hz
  · rw [e0] at hz
    rw [show up3 m 3 p 9 (m 3 p 9 + v) 1 z = m 1 z from up3_rows (by omega), up3_k (by omega), up3_k (by omega), up3_k (by omega), up3_k (by omega)]
    exact h.2.1 z hz
  · rw [e0] at hy
    rw [up3_ne (by simp), up3_k (by omega), up3_k (by omega)]
    exact h.2.2.1 y z hy hz
  · rw [e0] at hy
    rw [up3_k (k := 6) (by omega)]
    by_cases e : y = p ∧ z = 9
    · obtain ⟨rfl, rfl⟩ := e
      rw [up3_self, up3_self, e9]
    · rw [up3_ne (fun q => e q.2), up3_k (by omega)]
      exact h.2.2.2.1 y z hy hz
  · refine RLg.upa (μ := up3 μ 1 0 (35 + 10 * p + 9) _) (RLg.upa (h.l.up (by decide)) (by omega) (by omega)) (by decide) (by decide)
  · rw [e0, bsum_at (by omega) _ hp, up3_self, up3_k (by omega), h.b]
end RVS
