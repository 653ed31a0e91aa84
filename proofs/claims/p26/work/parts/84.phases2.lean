/-! arrivals and towing -/
section PH2
variable {m μ : Mem} {B j p q : Nat}
theorem up_same {m : Mem} {f i k : Nat} {v : Int32} (h : m f i k = v) : up3 m f i k v = m := by
  subst h
  exact up3_id
theorem tk_f {f t : Nat} {a b : Int32} (h : f ≠ 2) : x_X5_take m t a b f = m f := by
  rw [x_X5_take_eq]
  unfold y_X5_take
  rw [up3_fam h, up3_fam h]
theorem bu_f {f q : Nat} (h : f ≠ 3) : x_X0_takeBuses m q f = m f := by
  rw [x_X0_takeBuses_eq]
  unfold y_X0_takeBuses
  exact up3_fam h
theorem bu_k {q i k : Nat} (h : k ≠ 9) : x_X0_takeBuses m q 3 i k = m 3 i k := by
  rw [x_X0_takeBuses_eq]
  unfold y_X0_takeBuses
  exact up3_ne (fun z => h z.2.2)
theorem IN.buses {q : Nat} (h : IN m) : IN (x_X0_takeBuses m q) := by
  have e0 : x_X0_takeBuses m q 0 = m 0 := bu_f (by decide)
  have e1 : x_X0_takeBuses m q 1 = m 1 := bu_f (by decide)
  have e2 : x_X0_takeBuses m q 2 = m 2 := bu_f (by decide)
  have e3 : ∀ i k, k ≠ 9 → x_X0_takeBuses m q 3 i k = m 3 i k := fun i k hk => bu_k hk
  refine h.mk' (by rw [e0]) ?_ ?_ (fun p hp => ?_)
  · rw [e1]
    simp only [e3 _ 5 (by decide), e3 _ 6 (by decide)]
    exact h.2.1
  · unfold IT
    rw [e2]
    exact h.2.2.1
  · rw [e3 _ _ (by decide), e3 _ _ (by decide), e3 _ _ (by decide)]
    exact h.2.2.2 p hp
/-- what an arrival at a stand, or a tow to one, leaves of who is where -/
theorem hj_stand (hJ : HJ (ix (m 0 0 0)) (ix (m 0 0 2)) (fun p => m 3 p 5) (fun p => m 3 p 6) (fun j => m 1 j 1)) (bs : ix (m 0 0 0) ≤ 6) (ba : ix (m 0 0 2) ≤ 12) {i : Nat} (hj : j < ix (m 0 0 2)) (hi : i < ix (m 0 0 0)) (hs : m 3 j 6 = -1) (hσ : m 1 i 1 = -1) {v : Int32} (hv : HP v) : HJ (ix (m 0 0 0)) (ix (m 0 0 2)) (fun p => up3 (up3 (up3 m 3 j 5 v) 3 j 6 (nI i)) 1 i 1 (nI j) 3 p 5) (fun p => up3 (up3 (up3 m 3 j 5 v) 3 j 6 (nI i)) 1 i 1 (nI j) 3 p 6) (fun p => up3 (up3 (up3 m 3 j 5 v) 3 j 6 (nI i)) 1 i 1 (nI j) 1 p 1) := by
  refine hJ.move ba hj (fun q hq => by simp [up3, hq]) (fun q hq => by simp [up3, hq]) ?_ (fun z hz g => ?_) (fun z hz g => ?_)
  · try dsimp only
    rw [up3_ne (by simp), up3_ne (by simp), up3_self, up3_ne (by simp), up3_self]
    exact Or.inr ⟨hv, i, hi, rfl⟩
  · try dsimp only at g ⊢
    rw [up3_ne (by simp), up3_ne (by simp), up3_self, up3_ne (by simp), up3_self] at g
    have e := nI_inj (by omega) (by omega) g.2
    subst e
    rw [up3_self]
    exact ⟨rfl, Or.inl hσ⟩
  · try dsimp only at g ⊢
    rw [up3_ne (by simp), up3_ne (by simp), up3_self, up3_ne (by simp), up3_self] at g
    have e : z ≠ i := fun e => g ⟨hv, by rw [e]⟩
    rw [up3_ne (by omega), up3_ne (by simp), up3_ne (by simp)]
    refine ⟨fun y => ?_, fun _ => rfl⟩
    have y2 := ((hJ.2.1 z j hz hj).mpr y).2
    try dsimp only at y2
    rw [hs] at y2
    exact absurd y2.symm (nI_n1 (by omega))
theorem rc_body (h : RB B m μ) (hB : B + 1 < 2 ^ 31) (hj : j < ix (m 0 0 2)) : RB (B + 1) (bd_X1_receive_2 j m) (bd_X7_arrivals_2 j μ) ∧ bd_X1_receive_2 j m 0 = m 0 := by
  obtain ⟨hR, hv⟩ := h
  obtain ⟨hV, hI⟩ := id hR
  have bs := hI.ns.2
  have bt := hI.nt.2
  have ba := hI.na.2
  have sf := sf_eq hR hj
  have pl := hI.2.1.1 j hj
  try dsimp only at pl
  unfold bd_X1_receive_2 bd_X7_arrivals_2
  rw [of_eq, of_eq, ← hV.a (k := 5) hj (by decide), ← hV.a (k := 2) hj (by decide), ← hV.c (k := 3) (by decide), ← sf.1]
  have vs : VN (B + 1) (m 4 0 0) := ⟨hv.1, Nat.le_succ_of_le hv.2⟩
  by_cases h1 : m 3 j 5 = 0
  · rw [if_pos h1, if_pos h1]
    by_cases h2 : m 0 0 3 < m 3 j 2
    · rw [if_pos h2, if_pos h2]
      exact ⟨⟨hR, vs⟩, rfl⟩
    · rw [if_neg h2, if_neg h2]
      have hs : m 3 j 6 = -1 := by
        rcases pl with z | z
        · exact z.2
        · exact absurd h1 (hp_n z.1).1
      by_cases h3 : x_X1_freeStandFor m (m 3 j 0) = -1
      · rw [if_pos h3, if_pos h3, if_pos h3, if_pos h3, h3]
        have e6 : up3 m 3 j 5 2 3 j 6 = -1 := by
          rw [up3_ne (by simp)]
          exact hs
        have V1 := hV.upA (p := j) (k := 5) (v := 2) bs bt (by omega) (by decide)
        have V2 := V1.upA (p := j) (k := 6) (v := -1) (by rw [up3_ne (by simp)]; exact bs) (by rw [up3_ne (by simp)]; exact bt) (by omega) (by decide)
        rw [up_same e6] at V2
        have e0 : up3 m 3 j 5 2 0 = m 0 := up3_fam (by decide)
        have V3 := V2.buses (p := j) (by rw [e0]; exact bs) (by rw [e0]; exact bt) (by rw [e0]; exact ba) (by rw [e0]; exact hj)
        have e02 : x_X0_takeBuses (up3 m 3 j 5 2) j 0 = m 0 := (bu_f (by decide)).trans e0
        have e4 : x_X0_takeBuses (up3 m 3 j 5 2) j 4 0 0 = m 4 0 0 := by rw [bu_f (by decide), up3_ne (by simp)]
        refine ⟨⟨⟨V3.put (B := B) (by rw [e02]; exact bs) (by rw [e02]; exact bt) (by rw [e02]; exact ba) (by rw [e4]; exact hv) hB rfl, IN.put (IN.buses ?_)⟩, ?_⟩, ?_⟩
        · refine hI.mk' (by rw [e0]) ?_ (fun t ht => ?_) (fun q hq => ?_)
          · refine hI.2.1.move ba hj (fun q hq => by simp [up3, hq]) (fun q hq => by simp [up3]) ?_ (fun z hz g => ?_) (fun z hz g => ?_)
            · try dsimp only
              rw [up3_self, e6]
              exact Or.inl ⟨by decide, rfl⟩
            · try dsimp only at g
              rw [up3_self] at g
              exact absurd rfl (hp_n g.1).2.1
            · try dsimp only
              rw [up3_ne (by simp)]
              refine ⟨fun y => ?_, fun _ => rfl⟩
              have y2 := ((hI.2.1.2.1 z j hz hj).mpr y).2
              try dsimp only at y2
              rw [hs] at y2
              exact absurd y2.symm (nI_n1 (by omega))
          · rw [up3_ne (by simp), up3_ne (by simp)]
            exact hI.2.2.1 t ht
          · rw [up3_ne (by omega), up3_ne (by omega), up3_ne (by omega)]
            exact hI.2.2.2 q hq
        · rw [put_4, e4]
          exact (vn_s hv hB).1
        · rw [put_f (by decide), e02]
      · rw [if_neg h3, if_neg h3, if_neg h3, if_neg h3]
        obtain ⟨i, hi, ei, hσ⟩ := sf.2.resolve_left h3
        rw [ei, ix_nI (by omega)]
        have V1 := hV.upA (p := j) (k := 5) (v := 1) bs bt (by omega) (by decide)
        have V2 := V1.upA (p := j) (k := 6) (v := nI i) (by rw [up3_ne (by simp)]; exact bs) (by rw [up3_ne (by simp)]; exact bt) (by omega) (by decide)
        have V3 := V2.upS1 (j := i) (v := nI j)
        have e0 : up3 (up3 (up3 m 3 j 5 1) 3 j 6 (nI i)) 1 i 1 (nI j) 0 = m 0 := by rw [up3_fam (by decide), up3_fam (by decide), up3_fam (by decide)]
        have e4 : up3 (up3 (up3 m 3 j 5 1) 3 j 6 (nI i)) 1 i 1 (nI j) 4 0 0 = m 4 0 0 := by rw [up3_ne (by simp), up3_ne (by simp), up3_ne (by simp)]
        refine ⟨⟨⟨V3.put (B := B) (by rw [e0]; exact bs) (by rw [e0]; exact bt) (by rw [e0]; exact ba) (by rw [e4]; exact hv) hB rfl, IN.put ?_⟩, ?_⟩, ?_⟩
        · refine hI.mk' (by rw [e0]) (hj_stand hI.2.1 bs ba hj hi hs hσ (Or.inl rfl)) (fun t ht => ?_) (fun q hq => ?_)
          · rw [up3_ne (by simp), up3_ne (by simp), up3_ne (by simp), up3_ne (by simp), up3_ne (by simp), up3_ne (by simp)]
            exact hI.2.2.1 t ht
          · rw [up3_ne (by omega), up3_ne (by omega), up3_ne (by omega), up3_ne (by omega), up3_ne (by omega), up3_ne (by omega), up3_ne (by omega), up3_ne (by omega), up3_ne (by omega)]
            exact hI.2.2.2 q hq
        · rw [put_4, e4]
          exact (vn_s hv hB).1
        · rw [put_f (by decide), e0]
  · rw [if_neg h1, if_neg h1]
    exact ⟨⟨hR, vs⟩, rfl⟩
theorem rc_ok (h : RB B m μ) (hB : B + 12 < 2 ^ 31) : RB (B + 12) (x_X1_receive m) (x_X7_arrivals μ) ∧ x_X1_receive m 0 = m 0 := by
  have ba := h.1.2.na.2
  rw [x_X1_receive_eq, x_X7_arrivals_eq]
  unfold y_X1_receive y_X7_arrivals
  rw [lf_X1_receive_2_eq, lf_X7_arrivals_2_eq]
  unfold ly_X1_receive_2 ly_X7_arrivals_2
  rw [← h.1.1.c (k := 2) (by decide)]
  have q := itr_rel (n := ix (m 0 0 2)) (P := fun i s t => RB (B + i) s t ∧ s 0 = m 0) (fun jz s => bd_X1_receive_2 jz s) (fun jz s => bd_X7_arrivals_2 jz s) (fun i s t hi g => by
    have w := rc_body g.1 (by omega) (show i < ix (s 0 0 2) by rw [g.2]; exact hi)
    exact ⟨w.1, w.2.trans g.2⟩) ⟨h, rfl⟩
  exact ⟨⟨q.1.1, q.1.2.1, Nat.le_trans q.1.2.2 (by omega)⟩, q.2⟩
theorem tw_body (h : RB B m μ) (hB : B + 1 < 2 ^ 31) (hj : j < ix (m 0 0 2)) : RB (B + 1) (bd_X1_tow_2 j m) (bd_X7_towing_2 j μ) ∧ bd_X1_tow_2 j m 0 = m 0 := by
  obtain ⟨hR, hv⟩ := h
  obtain ⟨hV, hI⟩ := id hR
  have bs := hI.ns.2
  have bt := hI.nt.2
  have ba := hI.na.2
  have sf := sf_eq hR hj
  have tf := tf_eq hV bt hj
  have pl := hI.2.1.1 j hj
  try dsimp only at pl
  unfold bd_X1_tow_2 bd_X7_towing_2
  rw [of_eq, of_eq, ← hV.a (k := 5) hj (by decide), ← hV.a (k := 3) hj (by decide), ← hV.c (k := 3) (by decide), ← sf.1, ← tf.1]
  have vs : VN (B + 1) (m 4 0 0) := ⟨hv.1, Nat.le_succ_of_le hv.2⟩
  by_cases h1 : m 3 j 5 = 2
  · rw [if_pos h1, if_pos h1]
    by_cases h2 : m 0 0 3 + 30 < m 3 j 3
    · rw [if_pos h2, if_pos h2]
      have hs : m 3 j 6 = -1 := by
        rcases pl with z | z
        · exact z.2
        · exact absurd h1 (hp_n z.1).2.1
      by_cases h3 : x_X1_freeStandFor m (m 3 j 0) = -1
      · rw [if_pos h3, if_pos h3]
        exact ⟨⟨hR, vs⟩, rfl⟩
      · rw [if_neg h3, if_neg h3]
        by_cases h5 : x_X1_freeTugFor m (m 3 j 1) = -1
        · rw [if_pos h5, if_pos h5]
          exact ⟨⟨hR, vs⟩, rfl⟩
        · rw [if_neg h5, if_neg h5]
          obtain ⟨i, hi, ei, hσ⟩ := sf.2.resolve_left h3
          obtain ⟨t, ht, et, hτ⟩ := tf.2.resolve_left h5
          rw [ei, et, ix_nI (by omega), ix_nI (by omega), x_X5_take_eq, x_X7_takes_eq]
          unfold y_X5_take y_X7_takes
          have V1 := hV.upT (t := t) (k := 1) (v := nI j) bs (by omega) (by decide)
          have V2 := V1.upT (t := t) (k := 2) (v := 10) (by rw [up3_ne (by simp)]; exact bs) (by omega) (by decide)
          have c4 : up3 (up3 μ 1 0 (20 + 5 * t + 1) (nI j)) 1 0 (20 + 5 * t + 2) 10 1 0 (20 + 5 * t + 4) = m 2 t 4 := by
            rw [up1, if_neg (by omega), up1, if_neg (by omega)]
            exact (hV.t ht (by decide)).symm
          have V3 := V2.upT (t := t) (k := 4) (v := m 2 t 4 + 1) (by rw [up3_ne (by simp), up3_ne (by simp)]; exact bs) (by omega) (by decide)
          have V4 := V3.upA (p := j) (k := 5) (v := 3) (by rw [up3_ne (by simp), up3_ne (by simp), up3_ne (by simp)]; exact bs) (by rw [up3_ne (by simp), up3_ne (by simp), up3_ne (by simp)]; exact bt) (by omega) (by decide)
          have V5 := V4.upA (p := j) (k := 6) (v := nI i) (by rw [up3_ne (by simp), up3_ne (by simp), up3_ne (by simp), up3_ne (by simp)]; exact bs) (by rw [up3_ne (by simp), up3_ne (by simp), up3_ne (by simp), up3_ne (by simp)]; exact bt) (by omega) (by decide)
          have V6 := V5.upS1 (j := i) (v := nI j)
          have c4' : up3 (up3 (up3 (up3 (up3 m 3 j 5 3) 3 j 6 (nI i)) 1 i 1 (nI j)) 2 t 1 (nI j)) 2 t 2 10 2 t 4 = m 2 t 4 := by
            rw [up3_ne (by simp), up3_ne (by simp), up3_ne (by simp), up3_ne (by simp), up3_ne (by simp)]
          have eX : up3 (up3 (up3 (up3 (up3 (up3 m 3 j 5 3) 3 j 6 (nI i)) 1 i 1 (nI j)) 2 t 1 (nI j)) 2 t 2 10) 2 t 4 (m 2 t 4 + 1) = up3 (up3 (up3 (up3 (up3 (up3 m 2 t 1 (nI j)) 2 t 2 10) 2 t 4 (m 2 t 4 + 1)) 3 j 5 3) 3 j 6 (nI i)) 1 i 1 (nI j) := by
            rw [up3_sw (f := 1) (f' := 2) (by decide), up3_sw (f := 3) (f' := 2) (by decide), up3_sw (f := 3) (f' := 2) (by decide), up3_sw (f := 1) (f' := 2) (by decide), up3_sw (f := 3) (f' := 2) (by decide), up3_sw (f := 3) (f' := 2) (by decide), up3_sw (f := 1) (f' := 2) (by decide), up3_sw (f := 3) (f' := 2) (by decide), up3_sw (f := 3) (f' := 2) (by decide)]
          rw [c4, c4', eX]
          have e0 : up3 (up3 (up3 (up3 (up3 (up3 m 2 t 1 (nI j)) 2 t 2 10) 2 t 4 (m 2 t 4 + 1)) 3 j 5 3) 3 j 6 (nI i)) 1 i 1 (nI j) 0 = m 0 := by rw [up3_fam (by decide), up3_fam (by decide), up3_fam (by decide), up3_fam (by decide), up3_fam (by decide), up3_fam (by decide)]
          have e4 : up3 (up3 (up3 (up3 (up3 (up3 m 2 t 1 (nI j)) 2 t 2 10) 2 t 4 (m 2 t 4 + 1)) 3 j 5 3) 3 j 6 (nI i)) 1 i 1 (nI j) 4 0 0 = m 4 0 0 := by rw [up3_ne (by simp), up3_ne (by simp), up3_ne (by simp), up3_ne (by simp), up3_ne (by simp), up3_ne (by simp)]
          refine ⟨⟨⟨V6.put (B := B) (by rw [e0]; exact bs) (by rw [e0]; exact bt) (by rw [e0]; exact ba) (by rw [e4]; exact hv) hB rfl, IN.put ?_⟩, ?_⟩, ?_⟩
          · have k3 : ∀ a b, up3 (up3 (up3 (up3 (up3 (up3 m 2 t 1 (nI j)) 2 t 2 10) 2 t 4 (m 2 t 4 + 1)) 3 j 5 3) 3 j 6 (nI i)) 1 i 1 (nI j) 3 a b = up3 (up3 (up3 m 3 j 5 3) 3 j 6 (nI i)) 1 i 1 (nI j) 3 a b := fun a b => by
              rw [← eX, up3_ne (by simp), up3_ne (by simp), up3_ne (by simp)]
            have k1 : ∀ a b, up3 (up3 (up3 (up3 (up3 (up3 m 2 t 1 (nI j)) 2 t 2 10) 2 t 4 (m 2 t 4 + 1)) 3 j 5 3) 3 j 6 (nI i)) 1 i 1 (nI j) 1 a b = up3 (up3 (up3 m 3 j 5 3) 3 j 6 (nI i)) 1 i 1 (nI j) 1 a b := fun a b => by
              rw [← eX, up3_ne (by simp), up3_ne (by simp), up3_ne (by simp)]
            refine hI.mk' (by rw [e0]) ?_ (hI.2.2.1.set (t := t) (fun q hq => ?_) (fun _ => ?_)) (fun q hq => ?_)
            · simp only [k3, k1]
              exact hj_stand hI.2.1 bs ba hj hi hs hσ (Or.inr (Or.inl rfl))
            · rw [up3_fam (by decide), up3_fam (by decide), up3_fam (by decide), up3_rows (by omega), up3_rows (by omega), up3_rows (by omega)]
            · have w1 : up3 (up3 (up3 (up3 (up3 (up3 m 2 t 1 (nI j)) 2 t 2 10) 2 t 4 (m 2 t 4 + 1)) 3 j 5 3) 3 j 6 (nI i)) 1 i 1 (nI j) 2 t 1 = nI j := by rw [up3_ne (by simp), up3_ne (by simp), up3_ne (by simp), up3_ne (by simp), up3_ne (by simp), up3_self]
              have w2 : up3 (up3 (up3 (up3 (up3 (up3 m 2 t 1 (nI j)) 2 t 2 10) 2 t 4 (m 2 t 4 + 1)) 3 j 5 3) 3 j 6 (nI i)) 1 i 1 (nI j) 2 t 2 = 10 := by rw [up3_ne (by simp), up3_ne (by simp), up3_ne (by simp), up3_ne (by simp), up3_self]
              rw [w1, w2]
              exact ⟨Or.inr ⟨j, hj, rfl⟩, ⟨by decide +kernel, by decide +kernel⟩, fun _ => by decide⟩
            · rw [k3, k3, k3, up3_ne (by omega), up3_ne (by omega), up3_ne (by omega), up3_ne (by omega), up3_ne (by omega), up3_ne (by omega), up3_ne (by omega), up3_ne (by omega), up3_ne (by omega)]
              exact hI.2.2.2 q hq
          · rw [put_4, e4]
            exact (vn_s hv hB).1
          · rw [put_f (by decide), e0]
    · rw [if_neg h2, if_neg h2]
      exact ⟨⟨hR, vs⟩, rfl⟩
  · rw [if_neg h1, if_neg h1]
    exact ⟨⟨hR, vs⟩, rfl⟩
theorem tw_ok (h : RB B m μ) (hB : B + 12 < 2 ^ 31) : RB (B + 12) (x_X1_tow m) (x_X7_towing μ) ∧ x_X1_tow m 0 = m 0 := by
  have ba := h.1.2.na.2
  rw [x_X1_tow_eq, x_X7_towing_eq]
  unfold y_X1_tow y_X7_towing
  rw [lf_X1_tow_2_eq, lf_X7_towing_2_eq]
  unfold ly_X1_tow_2 ly_X7_towing_2
  rw [← h.1.1.c (k := 2) (by decide)]
  have q := itr_rel (n := ix (m 0 0 2)) (P := fun i s t => RB (B + i) s t ∧ s 0 = m 0) (fun jz s => bd_X1_tow_2 jz s) (fun jz s => bd_X7_towing_2 jz s) (fun i s t hi g => by
    have w := tw_body g.1 (by omega) (show i < ix (s 0 0 2) by rw [g.2]; exact hi)
    exact ⟨w.1, w.2.trans g.2⟩) ⟨h, rfl⟩
  exact ⟨⟨q.1.1, q.1.2.1, Nat.le_trans q.1.2.2 (by omega)⟩, q.2⟩
end PH2
