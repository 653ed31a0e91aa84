/-! pass, and the questions -/
section PAS
variable {B B' P N q : Nat} {S S' : Sys} {μ ν m t : Mem} {v x p1 p2 : Int32}
theorem us_itr {u : Nat} (F : Nat → Mem × Int32 → Mem × Int32) (G : Nat → Sys × Int32 → Sys × Int32) (hG : ∀ j s, G j s = (us s.1 u (F j (s.1 u, s.2)).1, (F j (s.1 u, s.2)).2)) (S0 : Sys) (c : Int32) : itr G N 0 (S0, c) = (us S0 u (itr F N 0 (S0 u, c)).1, (itr F N 0 (S0 u, c)).2) := by
  refine itr_rel (n := N) (s := (S0, c)) (t := (S0 u, c)) (P := fun _ (s : Sys × Int32) (y : Mem × Int32) => s = (us S0 u y.1, y.2)) G F (fun j s y hj g => ?_) (by dsimp only; rw [us_id])
  subst g
  rw [hG]
  dsimp only
  rw [us_same, us_us]
theorem pass_c (hP : P ≤ 500) (h : RB B m μ) (hm : S 1 = m) (hB : B + 39 * P + 39 < 2 ^ 31) (ht : ix (m 0 0 3) + P ≤ 13000) : lf_X6_pass_64 (nI P) v P S 0 = (us S 1 (MK1 P m), nI P) := by
  obtain ⟨i, hi, e, c1, c2⟩ := until_c (P := P) (st := fun _ => false) (fun _ _ _ _ => rfl) (fun _ s => if s.2 < nI P then ((x_X1_passSome s.1 (nI P - s.2)).1, s.2 + (x_X1_passSome s.1 (nI P - s.2)).2) else s) (fun j s => by
    by_cases g : s.2 < nI P
    · rw [if_pos g, if_pos g, if_neg (by decide)]
    · rw [if_neg g, if_neg g]) h hB (by omega) ht
  have ei : i = P := c2.resolve_left (by decide)
  subst ei
  rw [lf_X6_pass_64_eq]
  unfold ly_X6_pass_64
  rw [us_itr (u := 1) (fun _ s => if s.2 < nI i then ((x_X1_passSome s.1 (nI i - s.2)).1, s.2 + (x_X1_passSome s.1 (nI i - s.2)).2) else s) (fun jz s => bd_X6_pass_64 (nI i) v jz s.1 s.2) (fun j s => by
    show bd_X6_pass_64 (nI i) v j s.1 s.2 = _
    unfold bd_X6_pass_64
    dsimp only
    by_cases g : s.2 < nI i
    · rw [if_pos g, if_pos g]
    · rw [if_neg g, if_neg g, us_id]) S 0, hm, e]
theorem pass_m : lf_X7_pass_50 p1 v P μ = MN P μ := by
  rw [lf_X7_pass_50_eq]
  rfl
theorem call_pass (h : INV B S μ) (hb : B + 19600 ≤ B') (hB : B' + 200000 < 2147483648) : ST B' ct_L_pass S (x_X6_pass S p1).2 (x_X6_pass S p1).1 (x_X7_pass μ p1) := by
  rw [x_X6_pass_eq, x_X7_pass_eq]
  unfold y_X6_pass y_X7_pass
  rw [in_lit (x := p1) (a := 1) (c := 500) (by decide) (by decide)]
  by_cases h1 : x_X6_isOutside p1 1 500 = true
  · rw [if_pos h1, h1, if_neg (show ¬ (!true) = true by decide)]
    exact ST.throw h (by omega) hB (by unfold ct_L_pass; simp) (by decide)
  · rw [if_neg h1, eq_false_of_ne_true h1, if_pos (show (!false) = true from rfl), ← h.2.2.1.1.c (k := 3) (by decide)]
    by_cases h2 : 10000 < S 1 0 0 3 + p1
    · rw [if_pos h2, if_pos h2]
      exact ST.throw h (by omega) hB (by unfold ct_L_pass; simp) (by decide)
    · rw [if_neg h2, if_neg h2]
      have v1 : VN 500 p1 := out_VN (by decide) (by decide) (by decide) h1
      have hs := save_rel h
      have e := save_1 h
      have hF := hs.2.2.1
      have hv := hs.vt
      have tm : ix (x_X6_save S 1 0 0 3) + ix p1 ≤ 10000 := by
        rw [e.1]
        have a := vn_add (K := 10000) (L := 500) ⟨h.2.2.1.2.1.mi.1, h.2.2.1.2.2.1.1⟩ v1 (by decide)
        have w : VN 10000 (10000 : Int32) := ⟨by decide +kernel, by decide +kernel⟩
        rw [vn_nlt w a.1 (by decide) (by decide), show ix (10000 : Int32) = 10000 by decide +kernel, a.2] at h2
        omega
      have b1 := v1.2
      have cls := pass_c (S := x_X6_save S) (v := x_X1_countAt (x_X6_save S 1) 5) b1 hs.rb rfl (by omega) (by omega)
      have sk := fl_X6_pass_64 (B := B) (w1 := p1) (w2 := x_X1_countAt (x_X6_save S 1) 5) (N := ix p1) (m := x_X6_save S) (c3 := 0) (by omega) b1 hs.1
      rw [← v1.1] at cls
      rw [cls] at sk ⊢
      rw [pass_m]
      have fm := hF.mins hv (ix p1) (by omega) tm
      have hI : INV B' (us (x_X6_save S) 1 (MK1 (ix p1) (x_X6_save S 1))) (MN (ix p1) (x_X7_save μ)) := (hs.mono (by omega) hB).set1 (by have := sk.f1; dsimp only at this; rw [us_same] at this; exact this) ⟨fm.2.1, Nat.le_trans fm.2.2 (by omega)⟩ fm.1 (mn_f (by decide) (by decide)) (mn_f (by decide) (by decide)) (mn_f (by decide) (by decide))
      have ev : x_X1_countAt ((us (x_X6_save S) 1 (MK1 (ix p1) (x_X6_save S 1)), p1).1 1) 5 - x_X1_countAt (x_X6_save S 1) 5 = x_X7_inState (MN (ix p1) (x_X7_save μ)) 5 - x_X7_inState (x_X7_save μ) 5 := by
        dsimp only
        rw [us_same, co_eq fm.1.1, co_eq hF.1]
      rw [ev]
      exact ST.fine hI
/-! a question leaves the model as it was -/
theorem INV.quest (h : INV B S μ) (hS : SK B' S') (hs : ∀ u, u ≠ 2 → S' u = S u) (hB : B' + 200000 < 2147483648) (h0 : ν 0 = μ 0) (h2 : ν 2 = μ 2) (h5 : ν 5 = μ 5) (h1 : ∀ k, k < 245 → ν 1 0 k = μ 1 0 k) : INV B' S' ν := by
  obtain ⟨-, -, f, c, i, r, t, tx⟩ := h
  refine ⟨hS, hB, ?_, ?_, fun i' j => ?_, fun i' hi => ?_, ?_, fun z hz => ?_⟩
  · rw [hs 1 (by decide)]; exact f.congr h1
  · rw [hs 0 (by decide), h0]; exact c
  · rw [hs 0 (by decide)]; exact i i' j
  · rw [hs 0 (by decide)] at hi ⊢
    rw [hs _ (by omega), h2]
    exact r i' hi
  · rw [hs 7 (by decide), h0]; exact t
  · rw [hs 7 (by decide)] at hz ⊢
    rw [h5]
    exact tx z hz
theorem INV.trial (h : INV B S μ) : RB B (x_X1_copyFrom (S 2) (S 1)) (x_X7_laysAside μ) ∧ FR (x_X1_copyFrom (S 2) (S 1)) (x_X7_laysAside μ 1 0) := by
  have f : FR (x_X1_copyFrom (S 2) (S 1)) (x_X7_laysAside μ 1 0) := by
    rw [la_f (by decide)]
    exact h.2.2.1.copy
  refine ⟨⟨f.rr, ?_⟩, f⟩
  rw [copy_of.2.2.2.2.1]
  exact h.vt
/-- the model takes back what it laid aside -/
theorem back_f {ν : Mem} (h : ∀ f, f ≠ 1 → f ≠ 4 → ν f = x_X7_laysAside μ f) : (∀ f, f ≠ 1 → f ≠ 3 → f ≠ 4 → x_X7_takesBack ν f = μ f) ∧ ∀ k, k < 245 → x_X7_takesBack ν 1 0 k = μ 1 0 k :=
  ⟨fun f h1 h3 h4 => by rw [tb_f h1, h f h1 h4, la_f h3], tb_la (h 3 (by decide) (by decide))⟩
theorem INV.back (h : INV B S μ) (hS : SK B' S') (hs : ∀ u, u ≠ 2 → S' u = S u) (hB : B' + 200000 < 2147483648) (hν : ∀ f, f ≠ 1 → f ≠ 4 → ν f = x_X7_laysAside μ f) : INV B' S' (x_X7_takesBack ν) := by
  have q := back_f hν
  exact h.quest hS hs hB (q.1 0 (by decide) (by decide) (by decide)) (q.1 2 (by decide) (by decide) (by decide)) (q.1 5 (by decide) (by decide) (by decide)) q.2
theorem INV.t3 (h : INV B S μ) : ix (x_X1_copyFrom (S 2) (S 1) 0 0 3) ≤ 10000 := h.trial.2.2.2.1.1
/-! minutesToAll -/
theorem mins_ok (h : INV B S μ) (hb : B + 117100 ≤ B') (hB : B' + 200000 < 2147483648) : (x_X6_minutesToAll S).2 = (x_X7_minutesIf μ).2 ∧ INV B' (x_X6_minutesToAll S).1 (x_X7_minutesIf μ).1 ∧ (∀ u, u ≠ 2 → (x_X6_minutesToAll S).1 u = S u) ∧ (x_X7_minutesIf μ).1 0 = μ 0 := by
  have T := h.trial
  have t3 := h.t3
  rw [x_X6_minutesToAll_eq, x_X7_minutesIf_eq]
  unfold y_X6_minutesToAll y_X7_minutesIf
  rw [us_us, us_same]
  obtain ⟨i, hi, e1, e2, e3, R⟩ := all_ok T.1 (by omega) (by omega)
  have fw := fw_X1_passUntilAllGone (sk_cp h.1) (by omega)
  have hn : ∀ f, f ≠ 1 → f ≠ 4 → (x_X7_toAll (x_X7_laysAside μ)).1 f = x_X7_laysAside μ f := fun f f1 f4 => fr_toAll f1 f4
  exact ⟨e3, h.back (sk_us (h.1.mono (by omega)) (by decide) (by decide) fw.1 ⟨fw.2.1.1, Nat.le_trans fw.2.1.2 (by omega)⟩) (fun u hu => us_ne hu) hB hn, fun u hu => us_ne hu, (back_f hn).1 0 (by decide) (by decide) (by decide)⟩
theorem call_minutesToAll (h : INV B S μ) (hb : B + 117100 ≤ B') (hB : B' + 200000 < 2147483648) : (x_X6_minutesToAll S).2 = (x_X7_minutesToAll μ).2 ∧ INV B' (x_X6_minutesToAll S).1 (x_X7_minutesToAll μ).1 := by
  have q := mins_ok h hb hB
  rw [x_X7_minutesToAll_eq]
  unfold y_X7_minutesToAll
  rw [fine_eq]
  exact ⟨q.1, q.2.1.o1⟩
/-! delayOf -/
theorem del_P (hP : P = 3000) (h : RB B m μ) (hm : S 2 = m) (hq : q < ix (m 0 0 2)) (e1 : p1 = nI q) (hB : B + 39 * P + 39 < 2 ^ 31) (ht : ix (m 0 0 3) + P ≤ 13000) : ∃ i, i ≤ P ∧ lf_X6_delayOf_47 p1 q P S 0 = (us S 2 (MK1 i m), nI i) ∧ lf_X7_delayOf_20 p1 P μ = MN i μ ∧ RB (B + 39 * i) (MK1 i m) (MN i μ) ∧ q < ix (MK1 i m 0 0 2) := by
  have e3 : (3000 : Int32) = nI P := by
    rw [hP]
    rfl
  have l3 : P ≤ 3000 := Nat.le_of_eq hP
  have bq : q < 12 := Nat.lt_of_lt_of_le hq h.1.2.na.2
  have xq : ix p1 = q := by rw [e1, ix_nI (by omega)]
  clear hP
  let F : Nat → Mem × Int32 → Mem × Int32 := fun _ s => if s.2 < nI P then (if decide (¬ s.1 3 q 7 = -1) = true then s else ((x_X1_passSome s.1 (nI P - s.2)).1, s.2 + (x_X1_passSome s.1 (nI P - s.2)).2)) else s
  obtain ⟨i, hi, e, c1, c2⟩ := until_c (P := P) (st := fun x => decide (¬ x 3 q 7 = -1)) (fun x y h3 _ => by rw [h3 q 7 (by decide)]) F (fun j s => rfl) h hB l3 ht
  obtain ⟨i2, hi2, e2, d1, d2⟩ := until_d (μ := μ) (P := P) (sm := fun x => decide (¬ x_X7_of x q 7 = -1)) (fun jz s => bd_X7_delayOf_20 p1 jz s) (fun j s => by
    show bd_X7_delayOf_20 p1 j s = _
    unfold bd_X7_delayOf_20
    rw [xq]
    by_cases g : x_X7_of s q 7 = -1
    · simp [g]
    · simp [g])
  have rr : ∀ k, k ≤ P → RB (B + 39 * k) (MK1 k m) (MN k μ) ∧ q < ix (MK1 k m 0 0 2) := fun k hk => by
    have z := mk_ok h k (by omega) (by omega)
    exact ⟨z.1, by rw [z.2.1 2 (by decide)]; exact hq⟩
  have same := until_eq (st := fun x => decide (¬ x 3 q 7 = -1)) (sm := fun x => decide (¬ x_X7_of x q 7 = -1)) (fun k hk => by
    have z := (rr k hk).1.1.1.a (rr k hk).2 (k := 7) (by decide)
    try dsimp only
    rw [z, of_eq]) hi c1 c2 hi2 d1 d2
  subst same
  refine ⟨i, hi, ?_, ?_, (rr i hi).1, (rr i hi).2⟩
  · rw [lf_X6_delayOf_47_eq]
    unfold ly_X6_delayOf_47
    rw [us_itr (u := 2) F (fun jz s => bd_X6_delayOf_47 p1 q jz s.1 s.2) (fun j s => by
      show bd_X6_delayOf_47 p1 q j s.1 s.2 = _
      unfold bd_X6_delayOf_47
      dsimp only [F]
      rw [e3]
      by_cases g : s.2 < nI P
      · rw [if_pos g, if_pos g]
        by_cases g2 : s.1 2 3 q 7 = -1
        · rw [if_pos g2, if_neg (by simp [g2])]
        · rw [if_neg g2, if_pos (by simp [g2]), us_id]
      · rw [if_neg g, if_neg g, us_id]) S 0, hm, e]
  · rw [lf_X7_delayOf_20_eq]
    exact e2
theorem call_delayOf (h : INV B S μ) (hb : B + 117100 ≤ B') (hB : B' + 200000 < 2147483648) : ST B' ct_L_delayOf S (x_X6_delayOf S p1).2 (x_X6_delayOf S p1).1 (x_X7_delayOf μ p1) := by
  rw [x_X6_delayOf_eq, x_X7_delayOf_eq]
  unfold y_X6_delayOf y_X7_delayOf
  rw [← ha_eq h.2.2.1.1]
  by_cases h1 : x_X1_hasAircraft (S 1) p1 = true
  · rw [if_pos h1, if_pos h1]
    have b := has_A h.1.f1 h1
    have T := h.trial
    have t3 := h.t3
    have b12 := h.2.2.1.2.1.na.2
    have cp := sk_cp h.1
    obtain ⟨P, hP⟩ : ∃ P : Nat, P = 3000 := ⟨_, rfl⟩
    have n2 : x_X1_copyFrom (S 2) (S 1) 0 0 2 = S 1 0 0 2 := copy_of.1 2 (by decide)
    obtain ⟨i, hi, e1, e2, R, qi⟩ := del_P (S := us S 2 (x_X1_copyFrom (S 2) (S 1))) (q := ix p1) hP T.1 (us_same _ _ _) (by rw [n2]; exact b.2) b.1 (by omega) (by omega)
    have sk := fl_X6_delayOf_47 (B := B) (w1 := p1) (u2 := ix p1) (N := P) (m := us S 2 (x_X1_copyFrom (S 2) (S 1))) (c3 := 0) (by omega) (by omega) hP (sk_us h.1 (by decide) (by decide) cp.1 cp.2.1)
    rw [← hP]
    rw [e1] at sk ⊢
    rw [e2]
    have ev : (us (us S 2 (x_X1_copyFrom (S 2) (S 1))) 2 (MK1 i (x_X1_copyFrom (S 2) (S 1))), nI i).1 2 3 (ix p1) 7 = x_X7_of (MN i (x_X7_laysAside μ)) (ix p1) 7 := by
      dsimp only
      rw [us_same, of_eq]
      exact R.1.1.a qi (by decide)
    rw [ev]
    refine ST.fine (h.back (sk.mono (by omega)) (fun u hu => ?_) hB (fun f f1 f4 => mn_f f1 f4))
    dsimp only
    rw [us_ne hu, us_ne hu]
  · rw [if_neg h1, if_neg h1]
    exact ST.throw h (by omega) hB (by unfold ct_L_delayOf; simp) (by decide)
end PAS
