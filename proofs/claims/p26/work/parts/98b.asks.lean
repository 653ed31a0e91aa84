/-! delaysWithTug, bestStand, used -/
section ASK
variable {B B' P N q : Nat} {S S' : Sys} {μ ν m t u : Mem} {v x p1 p2 : Int32}
theorem adt (hN : ix (m 0 0 1) = N) (h3 : m 0 0 1 < 3) : (∀ f, f ≠ 0 → f ≠ 2 → x_X1_addTug m p1 f = m f) ∧ (∀ k, k ≠ 1 → x_X1_addTug m p1 0 0 k = m 0 0 k) ∧ x_X1_addTug m p1 0 0 1 = m 0 0 1 + 1 ∧ (∀ j, j ≠ N → x_X1_addTug m p1 2 j = m 2 j) ∧ x_X1_addTug m p1 2 N 0 = p1 ∧ x_X1_addTug m p1 2 N 1 = -1 ∧ x_X1_addTug m p1 2 N 2 = 0 ∧ x_X1_addTug m p1 2 N 3 = 0 ∧ x_X1_addTug m p1 2 N 4 = 0 := by
  rw [x_X1_addTug_eq]
  unfold y_X1_addTug
  rw [if_pos h3, hN, x_X5_restart_eq]
  unfold y_X5_restart
  refine ⟨fun f f0 f2 => ?_, fun k hk => ?_, ?_, fun j hj => ?_, ?_, ?_, ?_, ?_, ?_⟩
  · rw [up3_fam f0, up3_fam f2, up3_fam f2, up3_fam f2, up3_fam f2, up3_fam f2]
  · rw [up3_ne (by omega)]
    simp [up3]
  · rw [up3_self]
    simp [up3]
  · funext k
    simp [up3, hj]
  all_goals simp [up3]
theorem tug_ok (h : FR m (μ 1 0)) (hv : VN B (m 4 0 0)) (hN : ix (m 0 0 1) = N) (h3 : N < 3) (hl : m 0 0 1 < 3) : RB B (x_X1_addTug m p1) (up3 (up3 (up3 (up3 μ 1 0 (20 + 5 * N + 0) p1) 1 0 (20 + 5 * N + 1) (-1)) 1 0 (20 + 5 * N + 2) 0) 1 0 1 ((up3 (up3 (up3 μ 1 0 (20 + 5 * N + 0) p1) 1 0 (20 + 5 * N + 1) (-1)) 1 0 (20 + 5 * N + 2) 0) 1 0 1 + 1)) := by
  obtain ⟨hV, hI, hm, hU, hM⟩ := h
  have bs := hI.ns.2
  obtain ⟨a1, a2, a3, a4, a5, a6, a7, a8, a9⟩ := adt (p1 := p1) hN hl
  have e1 : m 0 0 1 = μ 1 0 1 := hV.1 1 (by decide)
  have z := hm.2.2 N h3 (by rw [← e1, hN]; exact Nat.le_refl _)
  have c1 : ∀ k, k ≠ 1 → ¬ (20 + 5 * N ≤ k ∧ k < 20 + 5 * N + 3) → up3 (up3 (up3 (up3 μ 1 0 (20 + 5 * N + 0) p1) 1 0 (20 + 5 * N + 1) (-1)) 1 0 (20 + 5 * N + 2) 0) 1 0 1 ((up3 (up3 (up3 μ 1 0 (20 + 5 * N + 0) p1) 1 0 (20 + 5 * N + 1) (-1)) 1 0 (20 + 5 * N + 2) 0) 1 0 1 + 1) 1 0 k = μ 1 0 k := fun k k1 hk => by
    rw [up3_k k1, up3_k (by omega), up3_k (by omega), up3_k (by omega)]
  have c2 : up3 (up3 (up3 (up3 μ 1 0 (20 + 5 * N + 0) p1) 1 0 (20 + 5 * N + 1) (-1)) 1 0 (20 + 5 * N + 2) 0) 1 0 1 ((up3 (up3 (up3 μ 1 0 (20 + 5 * N + 0) p1) 1 0 (20 + 5 * N + 1) (-1)) 1 0 (20 + 5 * N + 2) 0) 1 0 1 + 1) 1 0 1 = μ 1 0 1 + 1 := by
    rw [up3_self, up3_k (by omega), up3_k (by omega), up3_k (by omega)]
  have c3 : up3 (up3 (up3 (up3 μ 1 0 (20 + 5 * N + 0) p1) 1 0 (20 + 5 * N + 1) (-1)) 1 0 (20 + 5 * N + 2) 0) 1 0 1 ((up3 (up3 (up3 μ 1 0 (20 + 5 * N + 0) p1) 1 0 (20 + 5 * N + 1) (-1)) 1 0 (20 + 5 * N + 2) 0) 1 0 1 + 1) 1 0 (20 + 5 * N + 0) = p1 := by
    rw [up3_k (by omega), up3_k (by omega), up3_k (by omega), up3_self]
  have c4 : up3 (up3 (up3 (up3 μ 1 0 (20 + 5 * N + 0) p1) 1 0 (20 + 5 * N + 1) (-1)) 1 0 (20 + 5 * N + 2) 0) 1 0 1 ((up3 (up3 (up3 μ 1 0 (20 + 5 * N + 0) p1) 1 0 (20 + 5 * N + 1) (-1)) 1 0 (20 + 5 * N + 2) 0) 1 0 1 + 1) 1 0 (20 + 5 * N + 1) = -1 := by
    rw [up3_k (by omega), up3_k (by omega), up3_self]
  have c5 : up3 (up3 (up3 (up3 μ 1 0 (20 + 5 * N + 0) p1) 1 0 (20 + 5 * N + 1) (-1)) 1 0 (20 + 5 * N + 2) 0) 1 0 1 ((up3 (up3 (up3 μ 1 0 (20 + 5 * N + 0) p1) 1 0 (20 + 5 * N + 1) (-1)) 1 0 (20 + 5 * N + 2) 0) 1 0 1 + 1) 1 0 (20 + 5 * N + 2) = 0 := by
    rw [up3_k (by omega), up3_self]
  generalize up3 (up3 (up3 (up3 μ 1 0 (20 + 5 * N + 0) p1) 1 0 (20 + 5 * N + 1) (-1)) 1 0 (20 + 5 * N + 2) 0) 1 0 1 ((up3 (up3 (up3 μ 1 0 (20 + 5 * N + 0) p1) 1 0 (20 + 5 * N + 1) (-1)) 1 0 (20 + 5 * N + 2) 0) 1 0 1 + 1) = ω at *
  generalize x_X1_addTug m p1 = w at *
  have vs := vn_s (B := N) (x := m 0 0 1) ⟨hI.nt.1, by omega⟩ (by omega)
  rw [hN] at vs
  have w0 := a2 0 (by decide)
  have w2 := a2 2 (by decide)
  have b12 := hI.na.2
  refine ⟨⟨⟨fun k hk => ?_, fun j hj => ?_, fun j k hj hk => ?_, fun j k hj hk => ?_, ⟨?_, fun i hi => ?_⟩, ?_⟩, ?_, ?_, fun t ht => ?_, ?_⟩, ?_⟩
  · by_cases e : k = 1
    · subst e
      rw [a3, c2, e1]
    · rw [a2 k e, c1 k e (by omega)]
      exact hV.1 k hk
  · rw [w0] at hj
    rw [a1 1 (by decide) (by decide), c1 _ (by omega) (by omega), c1 _ (by omega) (by omega)]
    exact hV.2.1 j hj
  · rw [a3, vs.2] at hj
    by_cases e : j = N
    · subst e
      match k, hk with
      | 0, _ => rw [a5, c3]
      | 1, _ => rw [a6, c4]
      | 2, _ => rw [a7, c5]
      | 3, _ => rw [a8, c1 _ (by omega) (by omega), z.1]
      | 4, _ => rw [a9, c1 _ (by omega) (by omega), z.2]
    · rw [a4 j e, c1 _ (by omega) (by omega)]
      exact hV.2.2.1 j k (by omega) hk
  · rw [w2] at hj
    rw [a1 3 (by decide) (by decide), c1 _ (by omega) (by omega)]
    exact hV.2.2.2.1 j k hj hk
  · rw [a1 4 (by decide) (by decide), c1 7 (by decide) (by omega)]
    exact hV.l.1
  · rw [a1 4 (by decide) (by decide)] at hi ⊢
    rw [a1 5 (by decide) (by decide), a1 6 (by decide) (by decide), a1 7 (by decide) (by decide), c1 _ (by omega) (by omega), c1 _ (by omega) (by omega), c1 _ (by omega) (by omega)]
    exact hV.l.2 i hi
  · rw [w2, c1 6 (by decide) (by omega), ← hV.b]
    have g : ∀ K, bsum w K = bsum m K := by
      intro K
      induction K with
      | zero => rfl
      | succ K ih =>
        show bsum w K + w 3 K 9 = bsum m K + m 3 K 9
        rw [ih, a1 3 (by decide) (by decide)]
    exact g _
  · obtain ⟨i0, i1, i2, i3, i4, i5, i6⟩ := hI.1
    unfold IC
    rw [w0, w2, a3, a2 3 (by decide), a2 4 (by decide), a2 5 (by decide)]
    exact ⟨i0, vn_le vs.1 (by omega), i2, i3, i4, i5, i6⟩
  · rw [w0, w2, a1 3 (by decide) (by decide), a1 1 (by decide) (by decide)]
    exact hI.2.1
  · rw [a3, vs.2] at ht
    rw [w2]
    by_cases e : t = N
    · subst e
      rw [a6, a7]
      exact ⟨Or.inl rfl, vn_0, fun y => absurd rfl y⟩
    · rw [a4 t e]
      exact hI.2.2.1 t (by omega)
  · rw [w2]
    unfold IQ
    rw [a1 3 (by decide) (by decide)]
    exact hI.2.2.2
  · rw [a1 4 (by decide) (by decide)]
    exact hv
theorem call_delaysWithTug (h : INV B S μ) (hb : B + 117100 ≤ B') (hB : B' + 200000 < 2147483648) : ST B' ct_L_delaysWithTug S (x_X6_delaysWithTug S p1).2 (x_X6_delaysWithTug S p1).1 (x_X7_delaysWithTug μ p1) := by
  rw [x_X6_delaysWithTug_eq, x_X7_delaysWithTug_eq]
  unfold y_X6_delaysWithTug y_X7_delaysWithTug
  rw [in_lit (x := p1) (a := 1) (c := 3) (by decide) (by decide)]
  by_cases h1 : x_X6_isOutside p1 1 3 = true
  · rw [if_pos h1, h1, if_neg (show ¬ (!true) = true by decide)]
    exact ST.throw h (by omega) hB (by unfold ct_L_delaysWithTug; simp) (by decide)
  · rw [if_neg h1, eq_false_of_ne_true h1, if_pos (show (!false) = true from rfl), ← h.2.2.1.1.c (k := 1) (by decide)]
    have hnt := h.2.2.1.2.1.nt
    have q3 : S 1 0 0 1 < 3 ↔ ¬ S 1 0 0 1 = 3 := by
      have w : VN 3 (3 : Int32) := ⟨by decide +kernel, by decide +kernel⟩
      rw [vn_nlt hnt w (by decide) (by decide), show ix (3 : Int32) = 3 by decide +kernel]
      constructor
      · intro z e
        rw [e] at z
        exact absurd z (by decide +kernel)
      · intro z
        exact vn_3 hnt z
    by_cases h2 : S 1 0 0 1 = 3
    · rw [if_neg (fun z => q3.mp z h2), if_pos h2]
      exact ST.fine (h.mono (by omega) hB)
    · rw [if_pos (q3.mpr h2), if_neg h2]
      have T := h.trial
      have t3 := h.t3
      have n1 : x_X1_copyFrom (S 2) (S 1) 0 0 1 = S 1 0 0 1 := copy_of.1 1 (by decide)
      have R0 := tug_ok (p1 := p1) T.2 T.1.2 (N := ix (S 1 0 0 1)) (by rw [n1]) (vn_3 hnt h2) (by rw [n1]; exact q3.mpr h2)
      have a3 : x_X1_addTug (x_X1_copyFrom (S 2) (S 1)) p1 0 0 3 = x_X1_copyFrom (S 2) (S 1) 0 0 3 := (adt (p1 := p1) rfl (by rw [n1]; exact q3.mpr h2)).2.1 3 (by decide)
      have fw := fw_X1_passUntilAllGone (fw_addTug (p1 := p1) (sk_cp h.1)) (by omega)
      have hlb : ∀ f, f ≠ 1 → f ≠ 4 → (up3 (up3 (up3 (up3 (x_X7_laysAside μ) 1 0 (20 + 5 * ix (S 1 0 0 1) + 0) p1) 1 0 (20 + 5 * ix (S 1 0 0 1) + 1) (-1)) 1 0 (20 + 5 * ix (S 1 0 0 1) + 2) 0) 1 0 1 ((up3 (up3 (up3 (x_X7_laysAside μ) 1 0 (20 + 5 * ix (S 1 0 0 1) + 0) p1) 1 0 (20 + 5 * ix (S 1 0 0 1) + 1) (-1)) 1 0 (20 + 5 * ix (S 1 0 0 1) + 2) 0) 1 0 1 + 1)) f = x_X7_laysAside μ f := fun f f1 _ => by
        rw [up3_fam f1, up3_fam f1, up3_fam f1, up3_fam f1]
      generalize up3 (up3 (up3 (up3 (x_X7_laysAside μ) 1 0 (20 + 5 * ix (S 1 0 0 1) + 0) p1) 1 0 (20 + 5 * ix (S 1 0 0 1) + 1) (-1)) 1 0 (20 + 5 * ix (S 1 0 0 1) + 2) 0) 1 0 1 ((up3 (up3 (up3 (x_X7_laysAside μ) 1 0 (20 + 5 * ix (S 1 0 0 1) + 0) p1) 1 0 (20 + 5 * ix (S 1 0 0 1) + 1) (-1)) 1 0 (20 + 5 * ix (S 1 0 0 1) + 2) 0) 1 0 1 + 1) = ω at *
      rw [us_us, us_same, us_us, us_same]
      generalize x_X1_addTug (x_X1_copyFrom (S 2) (S 1)) p1 = w at *
      obtain ⟨i, hi, e1, e2, e3, R⟩ := all_ok R0 (by omega) (by rw [a3]; omega)
      have hn : ∀ f, f ≠ 1 → f ≠ 4 → (x_X7_toAll ω).1 f = x_X7_laysAside μ f := fun f f1 f4 => by rw [fr_toAll f1 f4, hlb f f1 f4]
      have hI : INV B' (us S 2 (x_X1_passUntilAllGone w).1) (x_X7_takesBack (x_X7_toAll ω).1) := h.back (sk_us (h.1.mono (by omega)) (by decide) (by decide) fw.1 ⟨fw.2.1.1, Nat.le_trans fw.2.1.2 (by omega)⟩) (fun u hu => us_ne hu) hB hn
      rw [e3]
      by_cases g : (x_X7_toAll ω).2 = -1
      · rw [if_pos g, if_pos g]
        exact ST.fine hI
      · rw [if_neg g, if_neg g]
        have ev : x_X1_sumOfDelays (us S 2 (x_X1_passUntilAllGone w).1 2) = x_X7_delays (x_X7_toAll ω).1 0 := by
          rw [us_same, e1, e2]
          exact sd_eq R.1.1 R.1.2.2.2.2
        rw [ev]
        exact ST.fine hI
/-! bestStand -/
theorem tri {m0 : Mem} (hF : FR u (μ 1 0)) (hv : VN B (u 4 0 0)) : RB B (x_X1_copyFrom m0 u) (x_X7_laysAside μ) ∧ ix (x_X1_copyFrom m0 u 0 0 3) ≤ 10000 := by
  have f : FR (x_X1_copyFrom m0 u) (x_X7_laysAside μ 1 0) := by
    rw [la_f (by decide)]
    exact hF.copy
  refine ⟨⟨f.rr, ?_⟩, f.2.2.1.1⟩
  rw [copy_of.2.2.2.2.1]
  exact hv
theorem jj_eq {c1 c2 c3 c4 c5 : Int32} : jf_X6_bestStand_j89 S c1 c2 c3 c4 c5 = jf_X7_bestStand_j76 μ c1 c2 c3 c4 c5 := by
  rw [jf_X6_bestStand_j89_eq, jf_X7_bestStand_j76_eq]
  rfl
theorem best_step {j : Nat} {c1 c2 : Int32} (h : INV B S μ) (hB : B + 317000 < 2147483648) (hj : j < ix (S 1 0 0 0)) (s1 : S' 1 = S 1) (r1 : ∀ k, k < 245 → ν 1 0 k = μ 1 0 k) : (∀ u, u ≠ 2 → (bd_X6_bestStand_6 j S' c1 c2).1 u = S' u) ∧ (∀ f, f ≠ 1 → f ≠ 3 → f ≠ 4 → (bd_X7_bestStand_6 j ν c1 c2).1 f = ν f) ∧ (∀ k, k < 245 → (bd_X7_bestStand_6 j ν c1 c2).1 1 0 k = ν 1 0 k) ∧ (bd_X6_bestStand_6 j S' c1 c2).2 = (bd_X7_bestStand_6 j ν c1 c2).2 := by
  have hF : FR (S' 1) (ν 1 0) := by
    rw [s1]
    exact h.2.2.1.congr r1
  have b6 := h.2.2.1.2.1.ns.2
  have hv : VN B (S' 1 4 0 0) := by
    rw [s1]
    exact h.vt
  have e0 : S' 1 1 j 0 = ν 1 0 (8 + 2 * j + 0) := hF.1.s0 (by rw [s1]; exact hj)
  unfold bd_X6_bestStand_6 bd_X7_bestStand_6
  rw [← e0]
  by_cases g : S' 1 1 j 0 < 4
  · rw [if_pos g, if_pos g]
    have T := tri (m0 := S' 2) hF hv
    have R0 : RB B (up3 (x_X1_copyFrom (S' 2) (S' 1)) 1 j 0 (x_X1_copyFrom (S' 2) (S' 1) 1 j 0 + 1)) (up3 (x_X7_laysAside ν) 1 0 (8 + 2 * j + 0) (x_X7_laysAside ν 1 0 (8 + 2 * j + 0) + 1)) := by
      have n0 : x_X1_copyFrom (S' 2) (S' 1) 0 0 0 = S' 1 0 0 0 := copy_of.1 0 (by decide)
      rw [← T.1.1.1.s0 (j := j) (by rw [n0, s1]; exact hj)]
      exact ⟨⟨T.1.1.1.upS0 (by omega), T.1.1.2.span⟩, by rw [up3_fam (by decide)]; exact T.1.2⟩
    have w3 : up3 (x_X1_copyFrom (S' 2) (S' 1)) 1 j 0 (x_X1_copyFrom (S' 2) (S' 1) 1 j 0 + 1) 0 0 3 = x_X1_copyFrom (S' 2) (S' 1) 0 0 3 := by rw [up3_fam (by decide)]
    have t3 := T.2
    rw [us_same, us_us, us_same, us_us, us_same]
    have hlb : ∀ f, f ≠ 1 → up3 (x_X7_laysAside ν) 1 0 (8 + 2 * j + 0) (x_X7_laysAside ν 1 0 (8 + 2 * j + 0) + 1) f = x_X7_laysAside ν f := fun f f1 => up3_fam f1
    generalize up3 (x_X7_laysAside ν) 1 0 (8 + 2 * j + 0) (x_X7_laysAside ν 1 0 (8 + 2 * j + 0) + 1) = ω at *
    generalize up3 (x_X1_copyFrom (S' 2) (S' 1)) 1 j 0 (x_X1_copyFrom (S' 2) (S' 1) 1 j 0 + 1) = w at *
    obtain ⟨i, hi, e1, e2, e3, R⟩ := all_ok R0 (by omega) (by rw [w3]; omega)
    have bk := back_f (μ := ν) (ν := (x_X7_toAll ω).1) (fun f f1 f4 => by rw [fr_toAll f1 f4, hlb f f1])
    have sb : x_X1_sumOfBuses (x_X1_passUntilAllGone w).1 = (x_X7_toAll ω).1 1 0 6 := by
      rw [e1, e2]
      exact sb_eq R.1.1
    rw [e3, sb]
    by_cases g2 : (x_X7_toAll ω).2 = -1
    · rw [if_pos g2, if_pos g2]
      refine ⟨fun u hu => us_ne hu, bk.1, bk.2, ?_⟩
      dsimp only
      rw [jj_eq (μ := x_X7_takesBack (x_X7_toAll ω).1)]
    · rw [if_neg g2, if_neg g2]
      refine ⟨fun u hu => us_ne hu, bk.1, bk.2, ?_⟩
      dsimp only
      rw [jj_eq (μ := x_X7_takesBack (x_X7_toAll ω).1)]
  · rw [if_neg g, if_neg g]
    exact ⟨fun _ _ => rfl, fun _ _ _ _ => rfl, fun _ _ => rfl, rfl⟩
theorem call_bestStand (h : INV B S μ) (hb : B + 117100 ≤ B') (hB : B' + 200000 < 2147483648) : (x_X6_bestStand S).2 = (x_X7_bestStand μ).2 ∧ INV B' (x_X6_bestStand S).1 (x_X7_bestStand μ).1 := by
  have b6 := h.2.2.1.2.1.ns.2
  rw [x_X6_bestStand_eq, x_X7_bestStand_eq]
  unfold y_X6_bestStand y_X7_bestStand
  rw [fine_eq, ← h.2.2.1.1.c (k := 0) (by decide), lf_X6_bestStand_6_eq, lf_X7_bestStand_6_eq]
  unfold ly_X6_bestStand_6 ly_X7_bestStand_6
  have q := itr_rel (n := ix (S 1 0 0 0)) (s := (S, (-1 : Int32), (0 : Int32))) (t := (μ, (-1 : Int32), (0 : Int32))) (P := fun _ (s : Sys × Int32 × Int32) (y : Mem × Int32 × Int32) => SK (B + 117000) s.1 ∧ (∀ u, u ≠ 2 → s.1 u = S u) ∧ (∀ f, f ≠ 1 → f ≠ 3 → f ≠ 4 → y.1 f = μ f) ∧ (∀ k, k < 245 → y.1 1 0 k = μ 1 0 k) ∧ s.2 = y.2) (fun jz s => bd_X6_bestStand_6 jz s.1 s.2.1 s.2.2) (fun jz s => bd_X7_bestStand_6 jz s.1 s.2.1 s.2.2) (fun j s y hj g => ?_) ⟨h.1.mono (by omega), fun _ _ => rfl, fun _ _ _ _ => rfl, fun _ _ => rfl, rfl⟩
  · refine ⟨congrArg Prod.fst q.2.2.2.2, INV.o1 (h.quest (q.1.mono (by omega)) q.2.1 hB (q.2.2.1 0 (by decide) (by decide) (by decide)) (q.2.2.1 2 (by decide) (by decide) (by decide)) (q.2.2.1 5 (by decide) (by decide) (by decide)) q.2.2.2.1)⟩
  · obtain ⟨g1, g2, g3, g4, g5⟩ := g
    have s1 := g2 1 (by decide)
    have st := best_step (S' := s.1) (ν := y.1) (c1 := s.2.1) (c2 := s.2.2) h (by omega) hj s1 g4
    have sk := (fb_X6_bestStand_6 (B := B) (j := j) (m := s.1) (c1 := s.2.1) (c2 := s.2.2) (by omega) (by omega) g1 (by rw [s1]; exact h.vt)).1
    rw [← g5]
    exact ⟨sk, fun u hu => (st.1 u hu).trans (g2 u hu), fun f f1 f3 f4 => (st.2.1 f f1 f3 f4).trans (g3 f f1 f3 f4), fun k hk => (st.2.2.1 k hk).trans (g4 k hk), st.2.2.2⟩
/-! used -/
theorem call_used (h : INV B S μ) (hb : B ≤ B') (hB : B' + 200000 < 2147483648) : FP.Core.dIsNaN (x_X6_used S) = false ∧ x_X6_used S = (x_X7_used μ).2 ∧ INV B' S (x_X7_used μ).1 := by
  have hF := h.2.2.1
  have b6 := hF.2.1.ns.2
  have e0 : S 1 0 0 0 = μ 1 0 0 := hF.1.c (by decide)
  have e3 : S 1 0 0 3 = μ 1 0 3 := hF.1.c (by decide)
  have r1 : up3 μ 0 0 1 0 1 = μ 1 := up3_fam (by decide)
  rw [x_X6_used_eq, x_X7_used_eq]
  unfold y_X6_used y_X7_used
  rw [r1, ← e0, ← e3]
  by_cases g : S 1 0 0 3 = 0
  · rw [if_pos g, if_pos g]
    exact ⟨by rw [dq_0]; exact FP.Core.DFin.notNaN (FP.Core.i2d_fin _), rfl, (h.mono hb hB).o1⟩
  · rw [if_neg g, if_neg g]
    have q := itr_rel (n := ix (S 1 0 0 0)) (s := (0 : Int32)) (t := FP.dconst0) (P := fun j (a : Int32) (b : UInt64) => ∃ k, k ≤ 13000 * j ∧ a = nI k ∧ b = FP.i2d (nI k)) (fun jz s => bd_X6_used_16 S jz s) (fun jz s => bd_X7_used_9 (up3 μ 0 0 1 0) jz s) (fun j a b hj z => ?_) ⟨0, Nat.zero_le _, rfl, dq_0⟩
    · obtain ⟨k, hk, ea, eb⟩ := q
      have es : lf_X7_used_9 (up3 μ 0 0 1 0) (ix (S 1 0 0 0)) FP.dconst0 = FP.i2d (lf_X6_used_16 S (ix (S 1 0 0 0)) 0) := by
        rw [lf_X6_used_16_eq, lf_X7_used_9_eq]
        unfold ly_X6_used_16 ly_X7_used_9
        rw [ea, eb]
      rw [es]
      refine ⟨FP.Core.ddiv_out (FP.Core.DFin.notNaN (FP.Core.i2d_fin _)) (FP.Core.i2d_fin _) (dq_nz ?_), rfl, (h.mono hb hB).o1⟩
      have v0 := hF.2.1.ns
      have v3 := hF.2.1.mi
      have b3 := v3.2
      have n0 : ix (S 1 0 0 0) ≠ 0 := fun z => hF.2.1.1.2.2.2.2.2.2 (by rw [v0.1, z]; rfl)
      have n3 : ix (S 1 0 0 3) ≠ 0 := fun z => g (by rw [v3.1, z]; rfl)
      have em := nI_mulE v0.1 v3.1
      rw [em]
      intro z
      have bd : ix (S 1 0 0 0) * ix (S 1 0 0 3) ≤ 6 * 13000 := Nat.mul_le_mul b6 b3
      have := nI_inj (a := ix (S 1 0 0 0) * ix (S 1 0 0 3)) (b := 0) (by omega) (by decide) z
      rcases Nat.mul_eq_zero.mp this with w | w
      · exact n0 w
      · exact n3 w
    · obtain ⟨k, hk, rfl, rfl⟩ := z
      have v := hF.2.2.2.1.2 j (by omega)
      have vm := hF.2.2.2.1.1.2
      have e2 : S 1 1 j 2 = μ 1 0 (8 + 2 * j + 1) := hF.1.s2 hj
      show ∃ k', k' ≤ 13000 * (j + 1) ∧ bd_X6_used_16 S j (nI k) = nI k' ∧ bd_X7_used_9 (up3 μ 0 0 1 0) j (FP.i2d (nI k)) = FP.i2d (nI k')
      unfold bd_X6_used_16 bd_X7_used_9
      rw [r1, e2]
      have vb := v.2
      refine ⟨k + ix (μ 1 0 (8 + 2 * j + 1)), by omega, ?_, ?_⟩
      · rw [← nI_add, ← v.1]
      · rw [← dq_add (by omega) (by omega), ← v.1]
end ASK
