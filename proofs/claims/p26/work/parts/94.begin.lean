/-! calls that set -/
theorem fine_eq {m : Mem} {v : Int32} : x_X7_fine m v = (up3 m 0 0 1 0, v) := by
  rw [x_X7_fine_eq]
  rfl
theorem thro_eq {m : Mem} {v : Int32} : x_X7_throwing m v = (up3 m 0 0 1 v, 0) := by
  rw [x_X7_throwing_eq]
  rfl
def ST (B : Nat) (ct : List (String × Int32)) (S : Sys) (r : Int32 ⊕ String) (S' : Sys) (q : Mem × Int32) : Prop := AG ct r q ∧ INV B (jS r S S') q.1
section STS
variable {B k : Nat} {S S' : Sys} {μ ν u : Mem} {a : Nat → Int32} {v x p1 p2 p3 p4 : Int32} {ct : List (String × Int32)} {E : String}
theorem ST.throw {B' : Nat} (h : INV B S μ) (hb : B ≤ B') (hB : B' + 200000 < 2147483648) (hc : (E, v) ∈ ct) (hv : ¬ v = 0) : ST B' ct S (.inr E) S' ((x_X7_throwing μ v).1, (x_X7_throwing μ v).2) := by
  rw [thro_eq]
  refine ⟨Or.inr ⟨E, rfl, ?_, ?_⟩, (h.o1).mono hb hB⟩
  · show (E, up3 μ 0 0 1 v 0 0 1) ∈ ct
    rw [up3_self]; exact hc
  · show ¬ up3 μ 0 0 1 v 0 0 1 = 0
    rw [up3_self]; exact hv
theorem ST.fine (h : INV B S' ν) : ST B ct S (.inl v) S' ((x_X7_fine ν v).1, (x_X7_fine ν v).2) := by
  rw [fine_eq]
  refine ⟨Or.inl ⟨v, rfl, ?_, rfl⟩, h.o1⟩
  show up3 ν 0 0 1 0 0 0 1 = 0
  exact up3_self _ _ _ _ _
theorem in_lit {lo hi : Int64} {a c : Int32} (ha : a.toInt64 = lo) (hc : c.toInt64 = hi) : x_X7_in x.toInt64 lo hi = !x_X6_isOutside x a c := by
  subst ha
  subst hc
  exact in_out
/-! a field begun anew -/
theorem fr_new (h0 : ∀ k, k < 6 → u 0 0 k = a k) (c2 : a 2 = 0) (c3 : a 3 = 0) (c6 : a 6 = 0) (c7 : a 7 = 0) (tot : u 4 0 0 = 0) (v0 : VN 6 (a 0)) (v1 : VN 3 (a 1)) (n0 : ¬ a 0 = 0) (n1 : ¬ a 1 = 0) (v4 : VN 1440 (a 4)) (v5 : VN 1440 (a 5))
    (st : ∀ j, j < ix (a 0) → u 1 j 0 = a (8 + 2 * j + 0) ∧ u 1 j 1 = -1 ∧ u 1 j 2 = 0) (st2 : ∀ j, j < 6 → a (8 + 2 * j + 1) = 0) (tg : ∀ t, t < ix (a 1) → u 2 t 0 = a (20 + 5 * t + 0) ∧ u 2 t 1 = -1 ∧ u 2 t 2 = 0 ∧ u 2 t 3 = 0 ∧ u 2 t 4 = 0) (tga : ∀ t, t < 3 → a (20 + 5 * t + 1) = -1 ∧ a (20 + 5 * t + 2) = 0 ∧ a (20 + 5 * t + 3) = 0 ∧ a (20 + 5 * t + 4) = 0) : FR u a := by
  have e0 := h0 0 (by decide)
  have e1 := h0 1 (by decide)
  have e2 := (h0 2 (by decide)).trans c2
  have e3 := (h0 3 (by decide)).trans c3
  have z : ix (0 : Int32) = 0 := by decide +kernel
  have b0 := v0.2
  have b1 := v1.2
  refine ⟨⟨h0, fun j hj => ?_, fun j k hj hk => ?_, fun j k hj hk => ?_, ⟨?_, fun i hi => ?_⟩, ?_⟩, ⟨⟨?_, ?_, ?_, ?_, ?_, ?_, ?_⟩, ⟨fun p hp => ?_, fun j p hj hp => ?_, fun j hj => ?_⟩, fun t ht => ?_, fun p hp => ?_⟩, ?_, ⟨?_, fun j hj => ?_⟩, ?_⟩
  · rw [e0] at hj
    have := st j hj
    exact ⟨this.1, this.2.2.trans (st2 j (by omega)).symm⟩
  · rw [e1] at hj
    have s := tg j hj
    have s2 := tga j (by omega)
    match k, hk with
    | 0, _ => exact s.1
    | 1, _ => exact s.2.1.trans s2.1.symm
    | 2, _ => exact s.2.2.1.trans s2.2.1.symm
    | 3, _ => exact s.2.2.2.1.trans s2.2.2.1.symm
    | 4, _ => exact s.2.2.2.2.trans s2.2.2.2.symm
  · rw [e2, z] at hj
    exact absurd hj (Nat.not_lt_zero j)
  · rw [c7, tot, z]
    rfl
  · rw [tot, z] at hi
    exact absurd hi (by omega)
  · rw [e2, z, c6]
    rfl
  · rw [e0]; exact v0
  · rw [e1]; exact v1
  · rw [e2]; exact vn_0
  · rw [e3]; exact vn_0
  · rw [h0 4 (by decide)]; exact v4
  · rw [h0 5 (by decide)]; exact v5
  · rw [e0]; exact n0
  · rw [e2, z] at hp
    exact absurd hp (Nat.not_lt_zero p)
  · rw [e2, z] at hp
    exact absurd hp (Nat.not_lt_zero p)
  · rw [e0] at hj
    exact Or.inl (st j hj).2.1
  · rw [e1] at ht
    have s := tg t ht
    exact ⟨Or.inl s.2.1, by rw [s.2.2.1]; exact vn_0, fun y => absurd s.2.1 y⟩
  · rw [e2, z] at hp
    exact absurd hp (Nat.not_lt_zero p)
  · refine ⟨by rw [e3, z]; exact Nat.zero_le _, n1, fun t ht _ => (tga t ht).2.2⟩
  · rw [c3]; exact vn_0
  · rw [st2 j hj]; exact vn_0
  · refine ⟨v0, v1, by rw [c2]; exact vn_0, by rw [c7]; exact vn_0, Or.inl (tga 0 (by decide)).1, Or.inl (tga 1 (by decide)).1, Or.inl (tga 2 (by decide)).1⟩
/-- the model's clearing -/
theorem clr : (x_X7_clears μ 1 0 2 = 0 ∧ x_X7_clears μ 1 0 3 = 0 ∧ x_X7_clears μ 1 0 6 = 0 ∧ x_X7_clears μ 1 0 7 = 0) ∧ (∀ k, (k = 0 ∨ k = 1 ∨ k = 4 ∨ k = 5) → x_X7_clears μ 1 0 k = μ 1 0 k) ∧ (∀ j, j < 6 → x_X7_clears μ 1 0 (8 + 2 * j + 0) = μ 1 0 (8 + 2 * j + 0) ∧ x_X7_clears μ 1 0 (8 + 2 * j + 1) = 0) ∧ ∀ t, t < 3 → x_X7_clears μ 1 0 (20 + 5 * t + 0) = μ 1 0 (20 + 5 * t + 0) ∧ x_X7_clears μ 1 0 (20 + 5 * t + 1) = -1 ∧ x_X7_clears μ 1 0 (20 + 5 * t + 2) = 0 ∧ x_X7_clears μ 1 0 (20 + 5 * t + 3) = 0 ∧ x_X7_clears μ 1 0 (20 + 5 * t + 4) = 0 := by
  have l1 : ∀ (s : Mem) k, k < 35 → lf_X7_clears_115 210 s 1 0 k = s 1 0 k := fun s k hk => by
    rw [lf_X7_clears_115_eq]
    unfold ly_X7_clears_115
    refine itr_inv (n := 210) (s := s) (P := fun _ (t : Mem) => t 1 0 k = s 1 0 k) (fun jz s => bd_X7_clears_115 jz s) (fun j t hj g => ?_) rfl
    show up3 t 1 0 (35 + j) 0 1 0 k = _
    rw [up3_k (by omega)]
    exact g
  have l2 : ∀ (s : Mem), (∀ k, (k < 20 ∨ (k - 20) % 5 = 0) → lf_X7_clears_57 3 s 1 0 k = s 1 0 k) ∧ ∀ t, t < 3 → lf_X7_clears_57 3 s 1 0 (20 + 5 * t + 1) = -1 ∧ lf_X7_clears_57 3 s 1 0 (20 + 5 * t + 2) = 0 ∧ lf_X7_clears_57 3 s 1 0 (20 + 5 * t + 3) = 0 ∧ lf_X7_clears_57 3 s 1 0 (20 + 5 * t + 4) = 0 := fun s => by
    rw [lf_X7_clears_57_eq]
    unfold ly_X7_clears_57
    refine itr_inv (n := 3) (s := s) (P := fun j (x : Mem) => (∀ k, (k < 20 ∨ (k - 20) % 5 = 0) → x 1 0 k = s 1 0 k) ∧ ∀ t, t < j → x 1 0 (20 + 5 * t + 1) = -1 ∧ x 1 0 (20 + 5 * t + 2) = 0 ∧ x 1 0 (20 + 5 * t + 3) = 0 ∧ x 1 0 (20 + 5 * t + 4) = 0) (fun jz s => bd_X7_clears_57 jz s) (fun j x hj g => ?_) ⟨fun _ _ => rfl, fun t ht => absurd ht (Nat.not_lt_zero t)⟩
    have e : bd_X7_clears_57 j x = up3 (up3 (up3 (up3 x 1 0 (20 + 5 * j + 1) (-1)) 1 0 (20 + 5 * j + 2) 0) 1 0 (20 + 5 * j + 3) 0) 1 0 (20 + 5 * j + 4) 0 := rfl
    show (∀ k, (k < 20 ∨ (k - 20) % 5 = 0) → bd_X7_clears_57 j x 1 0 k = s 1 0 k) ∧ ∀ t, t < j + 1 → bd_X7_clears_57 j x 1 0 (20 + 5 * t + 1) = -1 ∧ bd_X7_clears_57 j x 1 0 (20 + 5 * t + 2) = 0 ∧ bd_X7_clears_57 j x 1 0 (20 + 5 * t + 3) = 0 ∧ bd_X7_clears_57 j x 1 0 (20 + 5 * t + 4) = 0
    rw [e]
    refine ⟨fun k hk => ?_, fun t ht => ?_⟩
    · rw [up3_k (by omega), up3_k (by omega), up3_k (by omega), up3_k (by omega)]
      exact g.1 k hk
    · rcases Nat.lt_or_ge t j with l | l
      · simp only [up1]
        rw [if_neg (by omega), if_neg (by omega), if_neg (by omega), if_neg (by omega), if_neg (by omega), if_neg (by omega), if_neg (by omega), if_neg (by omega), if_neg (by omega), if_neg (by omega), if_neg (by omega), if_neg (by omega), if_neg (by omega), if_neg (by omega), if_neg (by omega), if_neg (by omega)]
        exact g.2 t l
      · have : t = j := by omega
        subst this
        refine ⟨?_, ?_, ?_, ?_⟩
        · rw [up3_k (by omega), up3_k (by omega), up3_k (by omega), up3_self]
        · rw [up3_k (by omega), up3_k (by omega), up3_self]
        · rw [up3_k (by omega), up3_self]
        · rw [up3_self]
  have l3 : ∀ (s : Mem), (∀ k, (k < 8 ∨ 20 ≤ k ∨ k % 2 = 0) → lf_X7_clears_32 6 s 1 0 k = s 1 0 k) ∧ ∀ j, j < 6 → lf_X7_clears_32 6 s 1 0 (8 + 2 * j + 1) = 0 := fun s => by
    rw [lf_X7_clears_32_eq]
    unfold ly_X7_clears_32
    refine itr_inv (n := 6) (s := s) (P := fun j (x : Mem) => (∀ k, (k < 8 ∨ 20 ≤ k ∨ k % 2 = 0) → x 1 0 k = s 1 0 k) ∧ ∀ t, t < j → x 1 0 (8 + 2 * t + 1) = 0) (fun jz s => bd_X7_clears_32 jz s) (fun j x hj g => ?_) ⟨fun _ _ => rfl, fun t ht => absurd ht (Nat.not_lt_zero t)⟩
    refine ⟨fun k hk => ?_, fun t ht => ?_⟩
    · show up3 x 1 0 (8 + 2 * j + 1) 0 1 0 k = _
      rw [up3_k (by omega)]
      exact g.1 k hk
    · show up3 x 1 0 (8 + 2 * j + 1) 0 1 0 (8 + 2 * t + 1) = 0
      by_cases e : t = j
      · subst e
        rw [up3_self]
      · rw [up3_k (by omega)]
        exact g.2 t (by omega)
  rw [x_X7_clears_eq]
  unfold y_X7_clears
  have q2 := l2 (lf_X7_clears_32 6 (up3 (up3 (up3 (up3 μ 1 0 2 0) 1 0 3 0) 1 0 6 0) 1 0 7 0))
  have q3 := l3 (up3 (up3 (up3 (up3 μ 1 0 2 0) 1 0 3 0) 1 0 6 0) 1 0 7 0)
  refine ⟨⟨?_, ?_, ?_, ?_⟩, fun k hk => ?_, fun j hj => ⟨?_, ?_⟩, fun t ht => ⟨?_, ?_⟩⟩
  · rw [l1 _ _ (by decide), q2.1 _ (by decide), q3.1 _ (by decide), up3_k (by decide), up3_k (by decide), up3_k (by decide), up3_self]
  · rw [l1 _ _ (by decide), q2.1 _ (by decide), q3.1 _ (by decide), up3_k (by decide), up3_k (by decide), up3_self]
  · rw [l1 _ _ (by decide), q2.1 _ (by decide), q3.1 _ (by decide), up3_k (by decide), up3_self]
  · rw [l1 _ _ (by decide), q2.1 _ (by decide), q3.1 _ (by decide), up3_self]
  · rw [l1 _ _ (by omega), q2.1 _ (by omega), q3.1 _ (by omega), up3_k (by omega), up3_k (by omega), up3_k (by omega), up3_k (by omega)]
  · rw [l1 _ _ (by omega), q2.1 _ (by omega), q3.1 _ (by omega), up3_k (by omega), up3_k (by omega), up3_k (by omega), up3_k (by omega)]
  · rw [l1 _ _ (by omega), q2.1 _ (by omega)]
    exact q3.2 j hj
  · rw [l1 _ _ (by omega), q2.1 _ (by omega), q3.1 _ (by omega), up3_k (by omega), up3_k (by omega), up3_k (by omega), up3_k (by omega)]
  · rw [l1 _ _ (by omega), l1 _ _ (by omega), l1 _ _ (by omega), l1 _ _ (by omega)]
    exact q2.2 t ht
/-- the class's restart -/
theorem rst : (x_X1_restart u 0 0 2 = 0 ∧ x_X1_restart u 0 0 3 = 0 ∧ x_X1_restart u 4 0 0 = 0) ∧ (∀ k, k ≠ 2 → k ≠ 3 → x_X1_restart u 0 0 k = u 0 0 k) ∧ (∀ j, j < ix (u 0 0 0) → x_X1_restart u 1 j 0 = u 1 j 0 ∧ x_X1_restart u 1 j 1 = -1 ∧ x_X1_restart u 1 j 2 = 0) ∧ ∀ t, t < ix (u 0 0 1) → x_X1_restart u 2 t 0 = u 2 t 0 ∧ x_X1_restart u 2 t 1 = -1 ∧ x_X1_restart u 2 t 2 = 0 ∧ x_X1_restart u 2 t 3 = 0 ∧ x_X1_restart u 2 t 4 = 0 := by
  have l1 : ∀ (N : Nat) (s : Mem), (∀ f, f ≠ 1 → lf_X1_restart_2 N s f = s f) ∧ ∀ j, j < N → lf_X1_restart_2 N s 1 j 0 = s 1 j 0 ∧ lf_X1_restart_2 N s 1 j 1 = -1 ∧ lf_X1_restart_2 N s 1 j 2 = 0 := fun N s => by
    rw [lf_X1_restart_2_eq]
    unfold ly_X1_restart_2
    have q := itr_inv (n := N) (s := s) (P := fun j (x : Mem) => (∀ f, f ≠ 1 → x f = s f) ∧ (∀ i, x 1 i 0 = s 1 i 0) ∧ ∀ t, t < j → x 1 t 1 = -1 ∧ x 1 t 2 = 0) (fun jz s => bd_X1_restart_2 jz s) (fun j x hj g => ?_) ⟨fun _ _ => rfl, fun _ => rfl, fun t ht => absurd ht (Nat.not_lt_zero t)⟩
    · exact ⟨q.1, fun j hj => ⟨q.2.1 j, q.2.2 j hj⟩⟩
    · have e : bd_X1_restart_2 j x = up3 (up3 x 1 j 1 (-1)) 1 j 2 0 := by
        show x_X3_restart x j = _
        rw [x_X3_restart_eq]
        rfl
      show (∀ f, f ≠ 1 → bd_X1_restart_2 j x f = s f) ∧ (∀ i, bd_X1_restart_2 j x 1 i 0 = s 1 i 0) ∧ ∀ t, t < j + 1 → bd_X1_restart_2 j x 1 t 1 = -1 ∧ bd_X1_restart_2 j x 1 t 2 = 0
      rw [e]
      refine ⟨fun f hf => by rw [up3_fam hf, up3_fam hf]; exact g.1 f hf, fun i => by rw [up3_ne (by simp), up3_ne (by simp)]; exact g.2.1 i, fun t ht => ?_⟩
      by_cases e2 : t = j
      · subst e2
        rw [up3_ne (by simp), up3_self, up3_self]
        exact ⟨rfl, rfl⟩
      · rw [up3_ne (by omega), up3_ne (by omega), up3_ne (by omega), up3_ne (by omega)]
        exact g.2.2 t (by omega)
  have l2 : ∀ (N : Nat) (s : Mem), (∀ f, f ≠ 2 → lf_X1_restart_27 N s f = s f) ∧ ∀ j, j < N → lf_X1_restart_27 N s 2 j 0 = s 2 j 0 ∧ lf_X1_restart_27 N s 2 j 1 = -1 ∧ lf_X1_restart_27 N s 2 j 2 = 0 ∧ lf_X1_restart_27 N s 2 j 3 = 0 ∧ lf_X1_restart_27 N s 2 j 4 = 0 := fun N s => by
    rw [lf_X1_restart_27_eq]
    unfold ly_X1_restart_27
    have q := itr_inv (n := N) (s := s) (P := fun j (x : Mem) => (∀ f, f ≠ 2 → x f = s f) ∧ (∀ i, x 2 i 0 = s 2 i 0) ∧ ∀ t, t < j → x 2 t 1 = -1 ∧ x 2 t 2 = 0 ∧ x 2 t 3 = 0 ∧ x 2 t 4 = 0) (fun jz s => bd_X1_restart_27 jz s) (fun j x hj g => ?_) ⟨fun _ _ => rfl, fun _ => rfl, fun t ht => absurd ht (Nat.not_lt_zero t)⟩
    · exact ⟨q.1, fun j hj => ⟨q.2.1 j, q.2.2 j hj⟩⟩
    · have e : bd_X1_restart_27 j x = up3 (up3 (up3 (up3 x 2 j 1 (-1)) 2 j 2 0) 2 j 3 0) 2 j 4 0 := by
        show x_X5_restart x j = _
        rw [x_X5_restart_eq]
        rfl
      show (∀ f, f ≠ 2 → bd_X1_restart_27 j x f = s f) ∧ (∀ i, bd_X1_restart_27 j x 2 i 0 = s 2 i 0) ∧ ∀ t, t < j + 1 → bd_X1_restart_27 j x 2 t 1 = -1 ∧ bd_X1_restart_27 j x 2 t 2 = 0 ∧ bd_X1_restart_27 j x 2 t 3 = 0 ∧ bd_X1_restart_27 j x 2 t 4 = 0
      rw [e]
      refine ⟨fun f hf => by rw [up3_fam hf, up3_fam hf, up3_fam hf, up3_fam hf]; exact g.1 f hf, fun i => by rw [up3_ne (by simp), up3_ne (by simp), up3_ne (by simp), up3_ne (by simp)]; exact g.2.1 i, fun t ht => ?_⟩
      by_cases e2 : t = j
      · subst e2
        simp [up3]
      · simp [up3, e2]
        exact g.2.2 t (by omega)
  have q1 := l1 (ix (u 0 0 0)) u
  have q2 := l2 (ix (u 0 0 1)) (lf_X1_restart_2 (ix (u 0 0 0)) u)
  rw [x_X1_restart_eq]
  unfold y_X1_restart
  refine ⟨⟨?_, ?_, up3_self _ _ _ _ _⟩, fun k h2 h3 => ?_, fun j hj => ?_, fun t ht => ?_⟩
  · rw [up3_ne (by decide), up3_ne (by decide), up3_self]
  · rw [up3_ne (by decide), up3_self]
  · rw [up3_ne (by simp), up3_ne (by omega), up3_ne (by omega), q2.1 0 (by decide), q1.1 0 (by decide)]
  · rw [up3_fam (by decide), up3_fam (by decide), up3_fam (by decide), q2.1 1 (by decide)]
    exact q1.2 j hj
  · rw [up3_fam (by decide), up3_fam (by decide), up3_fam (by decide)]
    have := q2.2 t ht
    rw [q1.1 2 (by decide)] at this
    exact this
theorem FR.clear (h : FR u (μ 1 0)) : FR (x_X1_restart u) (x_X7_clears μ 1 0) := by
  obtain ⟨r1, r2, r3, r4⟩ := rst (u := u)
  obtain ⟨c1, c2, c3, c4⟩ := clr (μ := μ)
  have hV := h.1
  have hI := h.2.1
  have bs := hI.ns.2
  have bt := hI.nt.2
  have k0 := c2 0 (by decide)
  have k1 := c2 1 (by decide)
  refine fr_new (fun k hk => ?_) c1.1 c1.2.1 c1.2.2.1 c1.2.2.2 r1.2.2 (by rw [k0]; exact h.2.2.2.2.1) (by rw [k1]; exact h.2.2.2.2.2.1) (by rw [k0, ← hV.c (k := 0) (by decide)]; exact hI.1.2.2.2.2.2.2) (by rw [k1]; exact h.2.2.1.2.1) (by rw [c2 4 (by decide), ← hV.c (k := 4) (by decide)]; exact hI.1.2.2.2.2.1) (by rw [c2 5 (by decide), ← hV.c (k := 5) (by decide)]; exact hI.1.2.2.2.2.2.1) (fun j hj => ?_) (fun j hj => (c3 j hj).2) (fun t ht => ?_) (fun t ht => (c4 t ht).2)
  · match k, hk with
    | 0, _ => rw [r2 0 (by decide) (by decide), k0]; exact hV.1 0 (by decide)
    | 1, _ => rw [r2 1 (by decide) (by decide), k1]; exact hV.1 1 (by decide)
    | 2, _ => rw [r1.1, c1.1]
    | 3, _ => rw [r1.2.1, c1.2.1]
    | 4, _ => rw [r2 4 (by decide) (by decide), c2 4 (by decide)]; exact hV.1 4 (by decide)
    | 5, _ => rw [r2 5 (by decide) (by decide), c2 5 (by decide)]; exact hV.1 5 (by decide)
  · rw [k0, ← hV.c (k := 0) (by decide)] at hj
    have := r3 j hj
    rw [(c3 j (by omega)).1, this.1]
    exact ⟨hV.s0 hj, this.2⟩
  · rw [k1, ← hV.c (k := 1) (by decide)] at ht
    have := r4 t ht
    rw [(c4 t (by omega)).1, this.1]
    exact ⟨hV.t ht (by decide), this.2⟩
end STS
