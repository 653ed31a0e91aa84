/-! calls that look -/
section LKS
variable {B B' : Nat} {S : Sys} {μ m : Mem} {v x p1 p2 : Int32} {q k : Nat}
theorem an_A (hk : k < 10) : x_X0_answer m q (nI k) = m 3 q k := by
  rw [x_X0_answer_eq]
  match k, hk with
  | 0, _ => rfl
  | 1, _ => rfl
  | 2, _ => rfl
  | 3, _ => rfl
  | 4, _ => rfl
  | 5, _ => rfl
  | 6, _ => rfl
  | 7, _ => rfl
  | 8, _ => rfl
  | 9, _ => rfl
theorem an_T (hk : k < 5) : x_X5_answer m q (nI k) = m 2 q k := by
  rw [x_X5_answer_eq]
  match k, hk with
  | 0, _ => rfl
  | 1, _ => rfl
  | 2, _ => rfl
  | 3, _ => rfl
  | 4, _ => rfl
theorem an_S (h : RR m μ) (hq : q < ix (m 0 0 0)) : x_X1_standAnswer m q x = x_X7_standOf μ q x := by
  rw [x_X1_standAnswer_eq, x_X7_standOf_eq]
  unfold y_X1_standAnswer y_X7_standOf
  rw [h.1.s0 hq, h.1.s2 hq, po_eq h hq, pf_eq h]
theorem an_V (h : RR m μ) (hv : VN B (m 4 0 0)) (hB : B < 2 ^ 31) (hk : k < 16) : x_X1_answer m (nI k) = x_X7_valueOf μ k := by
  have e7 : x_X2_kept m = μ 1 0 7 := (kept_n hv hB).trans h.1.l.1.symm
  rw [x_X1_answer_eq, x_X7_valueOf_eq]
  obtain rfl | rfl | rfl | rfl | rfl | rfl | rfl | rfl | rfl | rfl | rfl | rfl | rfl | rfl | rfl | rfl : k = 0 ∨ k = 1 ∨ k = 2 ∨ k = 3 ∨ k = 4 ∨ k = 5 ∨ k = 6 ∨ k = 7 ∨ k = 8 ∨ k = 9 ∨ k = 10 ∨ k = 11 ∨ k = 12 ∨ k = 13 ∨ k = 14 ∨ k = 15 := by omega
  · exact h.1.c (k := 0) (by decide)
  · exact h.1.c (k := 1) (by decide)
  · exact h.1.c (k := 2) (by decide)
  · exact h.1.c (k := 3) (by decide)
  · exact h.1.c (k := 4) (by decide)
  · exact h.1.c (k := 5) (by decide)
  · exact co_eq h.1
  · exact co_eq h.1
  · exact co_eq h.1
  · exact co_eq h.1
  · exact co_eq h.1
  · exact co_eq h.1
  · exact sd_eq h.1 h.2.2.2.2
  · exact gd_eq h.1 h.2.2.2.2
  · exact sb_eq h.1
  · exact e7
theorem an_E {i : Nat} (h : RV m (μ 1 0)) (hv : VN B (m 4 0 0)) (hB : B < 2 ^ 31) (hi : i < min (ix (m 4 0 0)) 30) (hk : k < 3) : x_X2_answer m (nI i) (nI k) = μ 1 0 (155 + 3 * i + k) := by
  have b := hv.2
  have e : m 4 0 0 - 1 - nI i = nI (ix (m 4 0 0) - 1 - i) := nI_subE (nI_subE hv.1 (show (1 : Int32) = nI 1 from rfl) (by omega)) rfl (by omega)
  have q := h.l.2 i hi
  rw [x_X2_answer_eq]
  unfold y_X2_answer
  rw [e, ix_nI (by omega)]
  match k, hk with
  | 0, _ => exact q.1
  | 1, _ => exact q.2.1
  | 2, _ => exact q.2.2
theorem INV.rr (h : INV B S μ) : RR (S 1) μ := h.2.2.1.rr
theorem INV.vt (h : INV B S μ) : VN B (S 1 4 0 0) := h.1.w1.2.1
theorem call_aircraft (h : INV B S μ) (hb : B ≤ B') (hB : B' + 200000 < 2147483648) : ST B' ct_L_aircraft S (x_X6_aircraft S p1 p2) S (x_X7_aircraft μ p1 p2) := by
  rw [x_X6_aircraft_eq, x_X7_aircraft_eq]
  unfold y_X6_aircraft y_X7_aircraft
  rw [in_lit (x := p2) (a := 0) (c := 9) (by decide) (by decide), ← ha_eq h.2.2.1.1]
  by_cases h1 : x_X1_hasAircraft (S 1) p1 = true
  · rw [if_pos h1, if_pos h1]
    by_cases h2 : x_X6_isOutside p2 0 9 = true
    · rw [if_pos h2, h2, if_neg (show ¬ (!true) = true by decide)]
      exact ST.throw h hb hB (by unfold ct_L_aircraft; simp) (by decide)
    · rw [if_neg h2, eq_false_of_ne_true h2, if_pos (show (!false) = true from rfl)]
      have v2 : VN 9 p2 := out_VN (by decide) (by decide) (by decide) h2
      have b2 := v2.2
      have e : x_X0_answer (S 1) (ix p1) p2 = x_X7_of μ (ix p1) (ix p2) := by
        rw [v2.1, an_A (by omega), ix_nI (by omega), of_eq]
        exact h.2.2.1.1.a (has_A h.1.f1 h1).2 (by omega)
      rw [e]
      exact ST.fine (h.mono hb hB)
  · rw [if_neg h1, if_neg h1]
    exact ST.throw h hb hB (by unfold ct_L_aircraft; simp) (by decide)
theorem call_stand (h : INV B S μ) (hb : B ≤ B') (hB : B' + 200000 < 2147483648) : ST B' ct_L_stand S (x_X6_stand S p1 p2) S (x_X7_stand μ p1 p2) := by
  rw [x_X6_stand_eq, x_X7_stand_eq]
  unfold y_X6_stand y_X7_stand
  rw [in_lit (x := p2) (a := 0) (c := 3) (by decide) (by decide), ← hs_eq h.2.2.1.1]
  by_cases h1 : x_X1_hasStand (S 1) p1 = true
  · rw [if_pos h1, if_pos h1]
    by_cases h2 : x_X6_isOutside p2 0 3 = true
    · rw [if_pos h2, h2, if_neg (show ¬ (!true) = true by decide)]
      exact ST.throw h hb hB (by unfold ct_L_stand; simp) (by decide)
    · rw [if_neg h2, eq_false_of_ne_true h2, if_pos (show (!false) = true from rfl)]
      rw [an_S h.rr (has_S h.1.f1 h1).2]
      exact ST.fine (h.mono hb hB)
  · rw [if_neg h1, if_neg h1]
    exact ST.throw h hb hB (by unfold ct_L_stand; simp) (by decide)
theorem call_tug (h : INV B S μ) (hb : B ≤ B') (hB : B' + 200000 < 2147483648) : ST B' ct_L_tug S (x_X6_tug S p1 p2) S (x_X7_tug μ p1 p2) := by
  rw [x_X6_tug_eq, x_X7_tug_eq]
  unfold y_X6_tug y_X7_tug
  rw [in_lit (x := p2) (a := 0) (c := 4) (by decide) (by decide), ← ht_eq h.2.2.1.1]
  by_cases h1 : x_X1_hasTug (S 1) p1 = true
  · rw [if_pos h1, if_pos h1]
    by_cases h2 : x_X6_isOutside p2 0 4 = true
    · rw [if_pos h2, h2, if_neg (show ¬ (!true) = true by decide)]
      exact ST.throw h hb hB (by unfold ct_L_tug; simp) (by decide)
    · rw [if_neg h2, eq_false_of_ne_true h2, if_pos (show (!false) = true from rfl)]
      have v2 : VN 4 p2 := out_VN (by decide) (by decide) (by decide) h2
      have b2 := v2.2
      have e : x_X5_answer (S 1) (ix p1) p2 = μ 1 0 (20 + 5 * ix p1 + ix p2) := by
        rw [v2.1, an_T (by omega), ix_nI (by omega)]
        exact h.2.2.1.1.t (has_T h.1.f1 h1).2 (by omega)
      rw [e]
      exact ST.fine (h.mono hb hB)
  · rw [if_neg h1, if_neg h1]
    exact ST.throw h hb hB (by unfold ct_L_tug; simp) (by decide)
theorem call_why (h : INV B S μ) (hb : B ≤ B') (hB : B' + 200000 < 2147483648) : ST B' ct_L_why S (x_X6_why S p1) S (x_X7_why μ p1) := by
  rw [x_X6_why_eq, x_X7_why_eq]
  unfold y_X6_why y_X7_why
  rw [← ha_eq h.2.2.1.1]
  by_cases h1 : x_X1_hasAircraft (S 1) p1 = true
  · rw [if_pos h1, if_pos h1, wn_eq h.rr (has_A h.1.f1 h1).2]
    exact ST.fine (h.mono hb hB)
  · rw [if_neg h1, if_neg h1]
    exact ST.throw h hb hB (by unfold ct_L_why; simp) (by decide)
theorem call_value (h : INV B S μ) (hb : B ≤ B') (hB : B' + 200000 < 2147483648) : ST B' ct_L_value S (x_X6_value S p1) S (x_X7_value μ p1) := by
  rw [x_X6_value_eq, x_X7_value_eq]
  unfold y_X6_value y_X7_value
  rw [in_lit (x := p1) (a := 0) (c := 15) (by decide) (by decide)]
  by_cases h2 : x_X6_isOutside p1 0 15 = true
  · rw [if_pos h2, h2, if_neg (show ¬ (!true) = true by decide)]
    exact ST.throw h hb hB (by unfold ct_L_value; simp) (by decide)
  · rw [if_neg h2, eq_false_of_ne_true h2, if_pos (show (!false) = true from rfl)]
    have v2 : VN 15 p1 := out_VN (by decide) (by decide) (by decide) h2
    have b2 := v2.2
    have hB0 := h.2.1
    have e : x_X1_answer (S 1) p1 = x_X7_valueOf μ (ix p1) := by
      rw [← an_V h.rr h.vt (by omega) (show ix p1 < 16 by omega), ← v2.1]
    rw [e]
    exact ST.fine (h.mono hb hB)
theorem ev_rng (hv : VN 30 v) : x_X6_isOutside x 0 (v - 1) = true ↔ ¬ x_X7_in x.toInt64 0 (v.toInt64 - 1) = true := by
  have e : x_X7_in x.toInt64 0 (v.toInt64 - 1) = true ↔ ¬ x < 0 ∧ x < v := in_end (a := 0)
  have t : (v - 1).toInt = v.toInt - 1 := by
    rw [hv.1]
    have : ∀ a, a ≤ 30 → (nI a - 1).toInt = (nI a).toInt - 1 := by decide +kernel
    exact this _ hv.2
  rw [e, x_X6_isOutside_eq]
  unfold y_X6_isOutside
  have t2 : v - 1 < x ↔ ¬ x < v := by
    rw [Int32.lt_iff_toInt_lt, Int32.lt_iff_toInt_lt, t]
    omega
  by_cases a : x < 0
  · rw [if_pos a]
    exact ⟨fun _ z => z.1 a, fun _ => rfl⟩
  · rw [if_neg a]
    by_cases b : v - 1 < x
    · rw [if_pos b]
      exact ⟨fun _ z => t2.mp b z.2, fun _ => rfl⟩
    · rw [if_neg b]
      exact ⟨fun z => absurd z (by decide), fun z => absurd ⟨a, Classical.byContradiction fun w => b (t2.mpr w)⟩ z⟩
theorem call_event (h : INV B S μ) (hb : B ≤ B') (hB : B' + 200000 < 2147483648) : ST B' ct_L_event S (x_X6_event S p1 p2) S (x_X7_event μ p1 p2) := by
  have hB0 := h.2.1
  have hv := h.vt
  have e7 : x_X2_kept (S 1) = μ 1 0 7 := (kept_n hv (by omega)).trans h.2.2.1.1.l.1.symm
  have v7 : VN 30 (μ 1 0 7) := h.2.2.1.2.2.2.2.2.2.2.1
  have g := ev_rng (x := p1) v7
  rw [x_X6_event_eq, x_X7_event_eq]
  unfold y_X6_event y_X7_event
  rw [in_lit (x := p2) (a := 0) (c := 2) (by decide) (by decide), e7]
  by_cases h1 : x_X6_isOutside p1 0 (μ 1 0 7 - 1) = true
  · rw [if_pos h1, if_neg (g.mp h1)]
    exact ST.throw h hb hB (by unfold ct_L_event; simp) (by decide)
  · have h1' : x_X7_in p1.toInt64 0 ((μ 1 0 7).toInt64 - 1) = true := Classical.byContradiction fun z => h1 (g.mpr z)
    rw [if_neg h1, if_pos h1']
    by_cases h2 : x_X6_isOutside p2 0 2 = true
    · rw [if_pos h2, h2, if_neg (show ¬ (!true) = true by decide)]
      exact ST.throw h hb hB (by unfold ct_L_event; simp) (by decide)
    · rw [if_neg h2, eq_false_of_ne_true h2, if_pos (show (!false) = true from rfl)]
      have v2 : VN 2 p2 := out_VN (by decide) (by decide) (by decide) h2
      have b2 := v2.2
      have i1 := in_lt v7 (by decide) h1'
      have b1 : ix p1 < min (ix (S 1 4 0 0)) 30 := by
        have := i1.2
        rw [h.2.2.1.1.l.1, ix_nI (by omega)] at this
        exact this
      have e : x_X2_answer (S 1) p1 p2 = μ 1 0 (155 + 3 * ix p1 + ix p2) := by
        have := an_E h.2.2.1.1 hv (by omega) b1 (show ix p2 < 3 by omega)
        rw [← i1.1, ← v2.1] at this
        exact this
      rw [e]
      exact ST.fine (h.mono hb hB)
/-! the timetable's letters -/
theorem INV.tt {T : Mem} {μ' : Mem} (h : INV B S μ) (h1 : μ' 1 = μ 1) (h2 : μ' 2 = μ 2) (h0 : μ' 0 0 0 = μ 0 0 0) (hT : T 0 0 0 = μ' 0 0 2) (hv : VN 90 (T 0 0 0)) (ht : ∀ z, z < ix (T 0 0 0) → T 1 0 z = μ' 5 0 z) : INV B (us S 7 T) μ' := by
  obtain ⟨k, b, f, c, i, r, -, -⟩ := h
  have e0 : us S 7 T 0 = S 0 := us_ne (by decide)
  refine ⟨⟨by rw [e0]; exact k.1, by rw [e0]; exact k.2.1, fun u u1 u6 => by rw [us_ne (by omega)]; exact k.2.2.1 u u1 u6, by rw [us_same]; exact hv⟩, b, ?_, ?_, fun i' j => ?_, fun i' hi => ?_, ?_, fun z hz => ?_⟩
  · rw [us_ne (by decide), h1]; exact f
  · rw [e0, h0]; exact c
  · rw [e0]; exact i i' j
  · rw [e0] at hi ⊢
    have p4 : ix (S 0 1 0 i') < 4 := vn_u4 (k.2.1 i' (by have := k.1.2; omega))
    rw [us_ne (by omega), h2]
    exact r i' hi
  · rw [us_same]; exact hT
  · rw [us_same] at hz ⊢
    exact ht z hz
theorem call_append (h : INV B S μ) (hb : B ≤ B') (hB : B' + 200000 < 2147483648) : ST B' ct_L_append S (x_X6_append S p1).2 (x_X6_append S p1).1 (x_X7_append μ p1) := by
  have hT : S 7 0 0 0 = μ 0 0 2 := h.2.2.2.2.2.2.1
  have htx := h.2.2.2.2.2.2.2
  have v90 := h.1.2.2.2
  rw [x_X6_append_eq, x_X7_append_eq]
  unfold y_X6_append y_X7_append
  rw [in_lit (x := p1) (a := 0) (c := 127) (by decide) (by decide)]
  by_cases h1 : x_X6_isOutside p1 0 127 = true
  · rw [if_pos h1, h1, if_neg (show ¬ (!true) = true by decide)]
    exact ST.throw h hb hB (by unfold ct_L_append; simp) (by decide)
  · rw [if_neg h1, eq_false_of_ne_true h1, if_pos (show (!false) = true from rfl), ← hT]
    have q90 : S 7 0 0 0 < 90 ↔ ¬ S 7 0 0 0 = 90 := by
      have w : VN 90 (90 : Int32) := ⟨by decide +kernel, by decide +kernel⟩
      rw [vn_nlt v90 w (by decide) (by decide), show ix (90 : Int32) = 90 by decide +kernel]
      constructor
      · intro z e
        rw [e] at z
        exact absurd z (by decide +kernel)
      · intro z
        exact vn_90 v90 z
    by_cases h2 : S 7 0 0 0 = 90
    · rw [if_neg (fun z => q90.mp z h2), if_pos h2]
      exact ST.throw h hb hB (by unfold ct_L_append; simp) (by decide)
    · rw [if_pos (q90.mpr h2), if_neg h2]
      have l := vn_90 v90 h2
      have vs := vn_s (B := ix (S 7 0 0 0)) (x := S 7 0 0 0) ⟨v90.1, Nat.le_refl _⟩ (by omega)
      have eT : x_X4_add (S 7) p1 = up3 (up3 (S 7) 1 0 (ix (S 7 0 0 0)) p1) 0 0 0 (S 7 0 0 0 + 1) := by
        rw [x_X4_add_eq]
        unfold y_X4_add
        rw [if_pos (q90.mpr h2), up3_ne (by simp)]
      have e1 : up3 μ 5 0 (ix (S 7 0 0 0)) p1 0 0 2 = S 7 0 0 0 := by rw [up3_ne (by simp), hT]
      rw [us_same, eT, up3_self, up3_self, e1]
      refine ST.fine ((h.tt ?_ ?_ ?_ ?_ ?_ (fun z hz => ?_)).mono hb hB)
      · rw [up3_fam (by decide), up3_fam (by decide)]
      · rw [up3_fam (by decide), up3_fam (by decide)]
      · rw [up3_ne (by simp), up3_ne (by simp)]
      · rw [up3_self, up3_self]
      · rw [up3_self]
        exact vn_le vs.1 (by omega)
      · rw [up3_self, vs.2] at hz
        rw [up3_fam (by decide), up3_fam (f := 0) (f' := 5) (by decide)]
        by_cases e : z = ix (S 7 0 0 0)
        · subst e
          rw [up3_self, up3_self]
        · rw [up3_ne (by omega), up3_ne (by omega)]
          exact htx z (by omega)
theorem call_clearText (h : INV B S μ) (hb : B ≤ B') (hB : B' + 200000 < 2147483648) : (x_X6_clearText S).2 = (x_X7_clearText μ).2 ∧ INV B' (x_X6_clearText S).1 (x_X7_clearText μ).1 := by
  have hT : S 7 0 0 0 = μ 0 0 2 := h.2.2.2.2.2.2.1
  rw [x_X6_clearText_eq, x_X7_clearText_eq]
  unfold y_X6_clearText y_X7_clearText
  rw [fine_eq]
  refine ⟨hT, INV.o1 ((h.tt (μ' := up3 μ 0 0 2 0) (T := up3 (S 7) 0 0 0 0) ?_ ?_ ?_ ?_ ?_ (fun z hz => ?_)).mono hb hB)⟩
  · rw [up3_fam (by decide)]
  · rw [up3_fam (by decide)]
  · rw [up3_ne (by decide)]
  · rw [up3_self, up3_self]
  · rw [up3_self]; exact vn_0
  · rw [up3_self] at hz
    rw [show ix (0 : Int32) = 0 by decide +kernel] at hz
    exact absurd hz (Nat.not_lt_zero z)
end LKS
