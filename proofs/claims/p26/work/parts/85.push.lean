/-! the pushbacks -/
theorem itr_add {S : Type} (f : Nat → S → S) : ∀ (k e j : Nat) (s : S), itr f (k + e) j s = itr f e (j + k) (itr f k j s)
  | 0, e, j, s => by
    rw [Nat.zero_add, Nat.add_zero]
    rfl
  | k + 1, e, j, s => by
    rw [Nat.add_right_comm]
    show itr f (k + e) (j + 1) (f j s) = itr f e (j + (k + 1)) (itr f k (j + 1) (f j s))
    rw [itr_add f k e (j + 1) (f j s), Nat.add_right_comm, Nat.add_assoc]
theorem itr_snoc {S : Type} (f : Nat → S → S) (k : Nat) (s : S) : itr f (k + 1) 0 s = f k (itr f k 0 s) := by
  rw [itr_add f k 1 0 s, Nat.zero_add]
  rfl
section PBS
variable {m μ : Mem} {B j p q k lo : Nat} {w : Int32}
theorem ft_congr {m' : Mem} (h0 : m' 0 = m 0) (h2 : m' 2 = m 2) : x_X1_freeTugFor m' w = x_X1_freeTugFor m w := by
  rw [x_X1_freeTugFor_eq]
  unfold y_X1_freeTugFor
  rw [lf_X1_freeTugFor_4_eq]
  unfold ly_X1_freeTugFor_4
  rw [h0, show (fun jz s => bd_X1_freeTugFor_4 m' w jz s) = fun jz s => bd_X1_freeTugFor_4 m w jz s from funext fun jz => funext fun s => by
    unfold bd_X1_freeTugFor_4
    rw [h2]]
theorem re0 (h : x_X1_reason m q = 0) : (m 3 q 5 = 1 ∨ m 3 q 5 = 2) ∧ ¬ m 0 0 3 < m 3 q 3 ∧ ¬ x_X1_freeTugFor m (m 3 q 1) = -1 := by
  rw [x_X1_reason_eq] at h
  unfold y_X1_reason at h
  rw [x_X0_isOnStandOrBay_eq] at h
  unfold y_X0_isOnStandOrBay at h
  by_cases h1 : m 3 q 5 = 1
  · by_cases h2 : m 0 0 3 < m 3 q 3
    · simp [h1, h2] at h
    · by_cases h3 : x_X1_freeTugFor m (m 3 q 1) = -1
      · simp [h1, h2, h3] at h
        repeat' split at h
        all_goals exact absurd h (by decide)
      · exact ⟨Or.inl h1, h2, h3⟩
  · by_cases h4 : m 3 q 5 = 2
    · by_cases h2 : m 0 0 3 < m 3 q 3
      · simp [h4, h2] at h
      · by_cases h3 : x_X1_freeTugFor m (m 3 q 1) = -1
        · simp [h4, h2, h3] at h
          repeat' split at h
          all_goals exact absurd h (by decide)
        · exact ⟨Or.inr h4, h2, h3⟩
    · simp [h1, h4] at h
      repeat' split at h
      all_goals exact absurd h (by decide)
theorem vn_dl {x y : Int32} (hx : VN 13000 x) (hy : VN 1999 y) (h : ¬ x < y) : VN 20000 (x - y) := by
  have bx := hx.2
  have by_ := hy.2
  rw [hx.1, hy.1, nI_ltI (by omega) (by omega)] at h
  have e : x - y = nI (ix x - ix y) := by
    conv => lhs; rw [hx.1, hy.1]
    exact pk_sub (by omega)
  unfold VN
  rw [e, ix_nI (by omega)]
  exact ⟨rfl, by omega⟩
/-- a pushback begins, behind the buses -/
theorem bp_core (h : RB B m μ) (hB : B + 1 < 2 ^ 31) (hq : q < ix (m 0 0 2)) {t : Nat} (ht : t < ix (m 0 0 1)) (h1 : m 3 q 5 = 1 ∨ m 3 q 5 = 2) (h2 : ¬ m 0 0 3 < m 3 q 3) :
    RB (B + 1) (x_X2_put (up3 (x_X5_take (up3 (up3 m 3 q 5 4) 3 q 7 (((up3 m 3 q 5 4) 0 0 3) - ((up3 m 3 q 5 4) 3 q 3))) t (nI q) 5) 2 t 3 (((x_X5_take (up3 (up3 m 3 q 5 4) 3 q 7 (((up3 m 3 q 5 4) 0 0 3) - ((up3 m 3 q 5 4) 3 q 3))) t (nI q) 5) 2 t 3) + 1)) 3 ((up3 (x_X5_take (up3 (up3 m 3 q 5 4) 3 q 7 (((up3 m 3 q 5 4) 0 0 3) - ((up3 m 3 q 5 4) 3 q 3))) t (nI q) 5) 2 t 3 (((x_X5_take (up3 (up3 m 3 q 5 4) 3 q 7 (((up3 m 3 q 5 4) 0 0 3) - ((up3 m 3 q 5 4) 3 q 3))) t (nI q) 5) 2 t 3) + 1)) 0 0 3) (nI q))
      (x_X7_writes (up3 (up3 (x_X7_takes μ t (nI q) 5 3) 1 0 (35 + 10 * q + 5) 4) 1 0 (35 + 10 * q + 7) (((up3 (x_X7_takes μ t (nI q) 5 3) 1 0 (35 + 10 * q + 5) 4) 1 0 3) - (x_X7_of (up3 (x_X7_takes μ t (nI q) 5 3) 1 0 (35 + 10 * q + 5) 4) q 3))) 3 (nI q)) := by
  obtain ⟨hR, hv⟩ := h
  obtain ⟨hV, hI⟩ := id hR
  have bs := hI.ns.2
  have bt := hI.nt.2
  have ba := hI.na.2
  have pl := hI.2.1.1 q hq
  rw [x_X5_take_eq, x_X7_takes_eq]
  unfold y_X5_take y_X7_takes
  have V1 := hV.upT (t := t) (k := 1) (v := nI q) bs (by omega) (by decide)
  have V2 := V1.upT (t := t) (k := 2) (v := 5) (by rw [up3_ne (by simp)]; exact bs) (by omega) (by decide)
  have c4 : up3 (up3 μ 1 0 (20 + 5 * t + 1) (nI q)) 1 0 (20 + 5 * t + 2) 5 1 0 (20 + 5 * t + 3) = m 2 t 3 := by
    rw [up1, if_neg (by omega), up1, if_neg (by omega)]
    exact (hV.t ht (by decide)).symm
  have V3 := V2.upT (t := t) (k := 3) (v := m 2 t 3 + 1) (by rw [up3_ne (by simp), up3_ne (by simp)]; exact bs) (by omega) (by decide)
  have V4 := V3.upA (p := q) (k := 5) (v := 4) (by rw [up3_ne (by simp), up3_ne (by simp), up3_ne (by simp)]; exact bs) (by rw [up3_ne (by simp), up3_ne (by simp), up3_ne (by simp)]; exact bt) (by omega) (by decide)
  have V5 := V4.upA (p := q) (k := 7) (v := m 0 0 3 - m 3 q 3) (by rw [up3_ne (by simp), up3_ne (by simp), up3_ne (by simp), up3_ne (by simp)]; exact bs) (by rw [up3_ne (by simp), up3_ne (by simp), up3_ne (by simp), up3_ne (by simp)]; exact bt) (by omega) (by decide)
  have f3 : up3 m 3 q 5 4 0 0 3 = m 0 0 3 := up3_ne (by simp)
  have f33 : up3 m 3 q 5 4 3 q 3 = m 3 q 3 := up3_ne (by simp)
  have c4' : up3 (up3 (up3 (up3 m 3 q 5 4) 3 q 7 (m 0 0 3 - m 3 q 3)) 2 t 1 (nI q)) 2 t 2 5 2 t 3 = m 2 t 3 := by
    rw [up3_ne (by simp), up3_ne (by simp), up3_ne (by simp), up3_ne (by simp)]
  have eX : up3 (up3 (up3 (up3 (up3 m 3 q 5 4) 3 q 7 (m 0 0 3 - m 3 q 3)) 2 t 1 (nI q)) 2 t 2 5) 2 t 3 (m 2 t 3 + 1) = up3 (up3 (up3 (up3 (up3 m 2 t 1 (nI q)) 2 t 2 5) 2 t 3 (m 2 t 3 + 1)) 3 q 5 4) 3 q 7 (m 0 0 3 - m 3 q 3) := by
    rw [up3_sw (f := 3) (f' := 2) (by decide), up3_sw (f := 3) (f' := 2) (by decide), up3_sw (f := 3) (f' := 2) (by decide), up3_sw (f := 3) (f' := 2) (by decide), up3_sw (f := 3) (f' := 2) (by decide), up3_sw (f := 3) (f' := 2) (by decide)]
  have g3 : up3 (up3 (up3 (up3 μ 1 0 (20 + 5 * t + 1) (nI q)) 1 0 (20 + 5 * t + 2) 5) 1 0 (20 + 5 * t + 3) (m 2 t 3 + 1)) 1 0 (35 + 10 * q + 5) 4 1 0 3 = m 0 0 3 := by
    rw [up1, if_neg (by omega), up1, if_neg (by omega), up1, if_neg (by omega), up1, if_neg (by omega)]
    exact (hV.c (by decide)).symm
  have g33 : up3 (up3 (up3 (up3 μ 1 0 (20 + 5 * t + 1) (nI q)) 1 0 (20 + 5 * t + 2) 5) 1 0 (20 + 5 * t + 3) (m 2 t 3 + 1)) 1 0 (35 + 10 * q + 5) 4 1 0 (35 + 10 * q + 3) = m 3 q 3 := by
    rw [up1, if_neg (by omega), up1, if_neg (by omega), up1, if_neg (by omega), up1, if_neg (by omega)]
    exact (hV.a hq (by decide)).symm
  rw [f3, f33, c4, c4', eX, of_eq, g3, g33]
  have e0 : up3 (up3 (up3 (up3 (up3 m 2 t 1 (nI q)) 2 t 2 5) 2 t 3 (m 2 t 3 + 1)) 3 q 5 4) 3 q 7 (m 0 0 3 - m 3 q 3) 0 = m 0 := by rw [up3_fam (by decide), up3_fam (by decide), up3_fam (by decide), up3_fam (by decide), up3_fam (by decide)]
  have e4 : up3 (up3 (up3 (up3 (up3 m 2 t 1 (nI q)) 2 t 2 5) 2 t 3 (m 2 t 3 + 1)) 3 q 5 4) 3 q 7 (m 0 0 3 - m 3 q 3) 4 0 0 = m 4 0 0 := by rw [up3_ne (by simp), up3_ne (by simp), up3_ne (by simp), up3_ne (by simp), up3_ne (by simp)]
  refine ⟨⟨V5.put (B := B) (by rw [e0]; exact bs) (by rw [e0]; exact bt) (by rw [e0]; exact ba) (by rw [e4]; exact hv) hB rfl, IN.put ?_⟩, ?_⟩
  · have k3 : ∀ a b, up3 (up3 (up3 (up3 (up3 m 2 t 1 (nI q)) 2 t 2 5) 2 t 3 (m 2 t 3 + 1)) 3 q 5 4) 3 q 7 (m 0 0 3 - m 3 q 3) 3 a b = up3 (up3 m 3 q 5 4) 3 q 7 (m 0 0 3 - m 3 q 3) 3 a b := fun a b => by
      rw [← eX, up3_ne (by simp), up3_ne (by simp), up3_ne (by simp)]
    have k1 : up3 (up3 (up3 (up3 (up3 m 2 t 1 (nI q)) 2 t 2 5) 2 t 3 (m 2 t 3 + 1)) 3 q 5 4) 3 q 7 (m 0 0 3 - m 3 q 3) 1 = m 1 := by rw [up3_fam (by decide), up3_fam (by decide), up3_fam (by decide), up3_fam (by decide), up3_fam (by decide)]
    have k5 : ∀ a, up3 (up3 m 3 q 5 4) 3 q 7 (m 0 0 3 - m 3 q 3) 3 a 5 = up3 m 3 q 5 4 3 a 5 := fun a => up3_ne (by omega)
    have k6 : ∀ a, up3 (up3 m 3 q 5 4) 3 q 7 (m 0 0 3 - m 3 q 3) 3 a 6 = m 3 a 6 := fun a => by rw [up3_ne (by omega), up3_ne (by omega)]
    refine hI.mk' (by rw [e0]) ?_ (hI.2.2.1.set (t := t) (fun z hz => ?_) (fun _ => ?_)) (fun z hz => ?_)
    · simp only [k3, k1, k5, k6]
      refine hI.2.1.move ba hq (fun z hz => by simp [up3, hz]) (fun _ _ => rfl) ?_ (fun i hi g => ?_) (fun i hi g => ?_)
      · try dsimp only
        rw [up3_self]
        rcases pl with z | z
        · exact Or.inl ⟨by decide, z.2⟩
        · exact Or.inr ⟨Or.inr (Or.inr rfl), z.2⟩
      · try dsimp only at g ⊢
        rcases pl with z | z
        · rw [show m 3 q 6 = -1 from z.2] at g
          exact absurd g.2.symm (nI_n1 (by omega))
        · have := (hI.2.1.2.1 i q hi hq).mp ⟨z.1, g.2⟩
          exact ⟨this, Or.inr this⟩
      · try dsimp only at g ⊢
        rw [up3_self] at g
        refine ⟨fun z => ?_, fun _ => rfl⟩
        exact absurd ⟨Or.inr (Or.inr rfl), ((hI.2.1.2.1 i q hi hq).mpr z).2⟩ g
    · rw [up3_fam (by decide), up3_fam (by decide), up3_rows (by omega), up3_rows (by omega), up3_rows (by omega)]
    · have w1 : up3 (up3 (up3 (up3 (up3 m 2 t 1 (nI q)) 2 t 2 5) 2 t 3 (m 2 t 3 + 1)) 3 q 5 4) 3 q 7 (m 0 0 3 - m 3 q 3) 2 t 1 = nI q := by rw [up3_ne (by simp), up3_ne (by simp), up3_ne (by simp), up3_ne (by simp), up3_self]
      have w2 : up3 (up3 (up3 (up3 (up3 m 2 t 1 (nI q)) 2 t 2 5) 2 t 3 (m 2 t 3 + 1)) 3 q 5 4) 3 q 7 (m 0 0 3 - m 3 q 3) 2 t 2 = 5 := by rw [up3_ne (by simp), up3_ne (by simp), up3_ne (by simp), up3_self]
      rw [w1, w2]
      exact ⟨Or.inr ⟨q, hq, rfl⟩, ⟨by decide +kernel, by decide +kernel⟩, fun _ => by decide⟩
    · have iq := hI.2.2.2 z hz
      rw [k3, k3, k3, up3_ne (by omega), up3_ne (by omega), up3_ne (k' := 3) (by omega), up3_ne (k' := 3) (by omega)]
      refine ⟨iq.1, iq.2.1, ?_⟩
      by_cases e : z = q
      · subst e
        rw [up3_self]
        exact Or.inr (vn_dl hI.mi iq.2.1 h2)
      · rw [up3_ne (by omega), up3_ne (by omega)]
        exact iq.2.2
  · rw [put_4, e4]
    exact (vn_s hv hB).1
theorem bp_ok (h : RB B m μ) (hB : B + 1 < 2 ^ 31) (hq : q < ix (m 0 0 2)) (h0 : x_X1_reason m q = 0) : RB (B + 1) (x_X1_beginPush m q) (x_X7_pushes μ q) := by
  obtain ⟨h1, h2, h3⟩ := re0 h0
  obtain ⟨hR, hv⟩ := id h
  obtain ⟨hV, hI⟩ := id hR
  have bs := hI.ns.2
  have bt := hI.nt.2
  have ba := hI.na.2
  have tf := tf_eq hV bt hq
  obtain ⟨t, ht, et, hτ⟩ := tf.2.resolve_left h3
  rw [x_X1_beginPush_eq, x_X7_pushes_eq]
  unfold y_X1_beginPush y_X7_pushes
  rw [if_neg h3, et, ix_nI (by omega), of_eq, ← hV.a (k := 5) hq (by decide)]
  by_cases g : m 3 q 5 = 2
  · rw [if_pos g, if_pos g]
    have V1 := hV.buses bs bt ba hq
    have I1 := hI.buses (q := q)
    have e0 : x_X0_takeBuses m q 0 = m 0 := bu_f (by decide)
    have e4 : x_X0_takeBuses m q 4 = m 4 := bu_f (by decide)
    have tf1 := tf_eq (q := q) V1 (by rw [e0]; exact bt) (by rw [e0]; exact hq)
    rw [bu_k (by decide), ft_congr e0 (bu_f (by decide)), et] at tf1
    rw [← tf1.1, ix_nI (by omega)]
    exact bp_core ⟨⟨V1, I1⟩, by rw [e4]; exact hv⟩ hB (by rw [e0]; exact hq) (by rw [e0]; exact ht) (by rw [bu_k (by decide)]; exact h1) (by rw [e0, bu_k (by decide)]; exact h2)
  · rw [if_neg g, if_neg g, ← tf.1, et, ix_nI (by omega)]
    exact bp_core h hB hq ht h1 h2
theorem bp_fr (h0 : x_X1_reason m q = 0) (hq : q < 12) : x_X1_beginPush m q 0 = m 0 ∧ (∀ p, p ≠ q → x_X1_beginPush m q 3 p = m 3 p) ∧ x_X1_beginPush m q 3 q 3 = m 3 q 3 ∧ x_X1_beginPush m q 3 q 5 = 4 ∧ x_X1_beginPush m q 4 0 0 = m 4 0 0 + 1 := by
  obtain ⟨-, -, h3⟩ := re0 h0
  rw [x_X1_beginPush_eq]
  unfold y_X1_beginPush
  rw [if_neg h3]
  have e3 : ∀ p, p ≠ q → x_X0_takeBuses m q 3 p = m 3 p := fun p hp => by
    rw [x_X0_takeBuses_eq]
    exact up3_rows (fun z => hp z.2)
  split
  · refine ⟨?_, fun p hp => ?_, ?_, ?_, ?_⟩
    · rw [put_f (by decide), up3_fam (by decide), tk_f (by decide), up3_fam (by decide), up3_fam (by decide), bu_f (by decide)]
    · rw [put_f (by decide), up3_fam (by decide), tk_f (by decide), up3_rows (by omega), up3_rows (by omega), e3 p hp]
    · rw [put_f (by decide), up3_fam (by decide), tk_f (by decide), up3_ne (by simp), up3_ne (by simp), bu_k (by decide)]
    · rw [put_f (by decide), up3_fam (by decide), tk_f (by decide), up3_ne (by simp), up3_self]
    · rw [put_4, up3_ne (by simp), tk_f (by decide), up3_ne (by simp), up3_ne (by simp), bu_f (by decide)]
  · refine ⟨?_, fun p hp => ?_, ?_, ?_, ?_⟩
    · rw [put_f (by decide), up3_fam (by decide), tk_f (by decide), up3_fam (by decide), up3_fam (by decide)]
    · rw [put_f (by decide), up3_fam (by decide), tk_f (by decide), up3_rows (by omega), up3_rows (by omega)]
    · rw [put_f (by decide), up3_fam (by decide), tk_f (by decide), up3_ne (by simp), up3_ne (by simp)]
    · rw [put_f (by decide), up3_fam (by decide), tk_f (by decide), up3_ne (by simp), up3_self]
    · rw [put_4, up3_ne (by simp), tk_f (by decide), up3_ne (by simp), up3_ne (by simp)]
end PBS
