/-! the two fields as they are made -/
def FB (m : Mem) (sp st : Nat → Int32) : Prop := ((m 0 0 0 = 4 ∧ m 0 0 1 = 3) ∧ m 0 0 2 = 0 ∧ m 0 0 3 = 0 ∧ m 0 0 4 = 0 ∧ m 0 0 5 = 0) ∧ m 4 0 0 = 0 ∧ (∀ j, j < 4 → m 1 j 0 = sp j ∧ m 1 j 1 = -1 ∧ m 1 j 2 = 0) ∧ ∀ t, t < 3 → m 2 t 0 = st t ∧ m 2 t 1 = -1 ∧ m 2 t 2 = 0 ∧ m 2 t 3 = 0 ∧ m 2 t 4 = 0
def FI (B : Nat) (S : Sys) (sp st : Nat → Int32) : Prop := (∃ μ, INV B S μ) ∧ FB (S 1) sp st
section STF
variable {m u m' n n' s : Mem} {S T S' T' : Sys} {μ ν : Mem} {w v d c a b p1 p2 : Int32} {sp st sp' st' : Nat → Int32} {B B' P j p q k t i K N f : Nat}
theorem bld (v1 : VN 6 p1) (v2 : VN 3 p2) : (x_X1_build u p1 p2 0 0 0 = p1 ∧ x_X1_build u p1 p2 0 0 1 = p2) ∧ x_X1_build u p1 p2 0 0 2 = 0 ∧ x_X1_build u p1 p2 0 0 3 = 0 ∧ (∀ k, 4 ≤ k → x_X1_build u p1 p2 0 0 k = u 0 0 k) ∧ x_X1_build u p1 p2 4 0 0 = 0 ∧ (∀ j, j < ix p1 → x_X1_build u p1 p2 1 j 0 = 2 ∧ x_X1_build u p1 p2 1 j 1 = -1 ∧ x_X1_build u p1 p2 1 j 2 = 0) ∧ ∀ t, t < ix p2 → x_X1_build u p1 p2 2 t 0 = 3 ∧ x_X1_build u p1 p2 2 t 1 = -1 ∧ x_X1_build u p1 p2 2 t 2 = 0 ∧ x_X1_build u p1 p2 2 t 3 = 0 ∧ x_X1_build u p1 p2 2 t 4 = 0 := by
  rw [x_X1_build_eq]
  unfold y_X1_build
  generalize hw0 : up3 (up3 u 0 0 0 p1) 0 0 1 p2 = w0
  have w00 : w0 0 0 0 = p1 := by rw [← hw0, up3_ne (by decide), up3_self]
  have w01 : w0 0 0 1 = p2 := by rw [← hw0, up3_self]
  have w0k : ∀ k, 2 ≤ k → w0 0 0 k = u 0 0 k := fun k hk => by rw [← hw0, up3_ne (by omega), up3_ne (by omega)]
  have wa : (∀ f, f ≠ 1 → lf_X1_build_12 p1 p2 (ix (w0 0 0 0)) w0 f = w0 f) ∧ ∀ j, j < ix (w0 0 0 0) → lf_X1_build_12 p1 p2 (ix (w0 0 0 0)) w0 1 j 0 = 2 := by
    rw [lf_X1_build_12_eq]
    unfold ly_X1_build_12
    refine itr_inv (n := ix (w0 0 0 0)) (s := w0) (P := fun j (s : Mem) => (∀ f, f ≠ 1 → s f = w0 f) ∧ ∀ i, i < j → s 1 i 0 = 2) (fun jz s => bd_X1_build_12 p1 p2 jz s) (fun j s hj g => ?_) ⟨fun _ _ => rfl, fun i hi => absurd hi (Nat.not_lt_zero i)⟩
    refine ⟨fun f hf => (up3_fam hf).trans (g.1 f hf), fun i hi => ?_⟩
    show up3 s 1 j 0 2 1 i 0 = 2
    by_cases e : i = j
    · subst e; rw [up3_self]
    · rw [up3_ne (by omega)]; exact g.2 i (by omega)
  generalize lf_X1_build_12 p1 p2 (ix (w0 0 0 0)) w0 = w1 at wa ⊢
  have wb : (∀ f, f ≠ 2 → lf_X1_build_38 p1 p2 (ix (w1 0 0 1)) w1 f = w1 f) ∧ ∀ j, j < ix (w1 0 0 1) → lf_X1_build_38 p1 p2 (ix (w1 0 0 1)) w1 2 j 0 = 3 := by
    rw [lf_X1_build_38_eq]
    unfold ly_X1_build_38
    refine itr_inv (n := ix (w1 0 0 1)) (s := w1) (P := fun j (s : Mem) => (∀ f, f ≠ 2 → s f = w1 f) ∧ ∀ i, i < j → s 2 i 0 = 3) (fun jz s => bd_X1_build_38 p1 p2 jz s) (fun j s hj g => ?_) ⟨fun _ _ => rfl, fun i hi => absurd hi (Nat.not_lt_zero i)⟩
    refine ⟨fun f hf => (up3_fam hf).trans (g.1 f hf), fun i hi => ?_⟩
    show up3 s 2 j 0 3 2 i 0 = 3
    by_cases e : i = j
    · subst e; rw [up3_self]
    · rw [up3_ne (by omega)]; exact g.2 i (by omega)
  generalize lf_X1_build_38 p1 p2 (ix (w1 0 0 1)) w1 = w2 at wb ⊢
  obtain ⟨r1, r2, r3, r4⟩ := rst (u := w2)
  have g0 : ∀ k, w2 0 0 k = w0 0 0 k := fun k => by rw [wb.1 0 (by decide), wa.1 0 (by decide)]
  refine ⟨⟨by rw [r2 0 (by decide) (by decide), g0, w00], by rw [r2 1 (by decide) (by decide), g0, w01]⟩, r1.1, r1.2.1, fun k hk => by rw [r2 k (by omega) (by omega), g0, w0k k (by omega)], r1.2.2, fun j hj => ?_, fun t ht => ?_⟩
  · have := r3 j (by rw [g0, w00]; exact hj)
    refine ⟨?_, this.2⟩
    rw [this.1, wb.1 1 (by decide), wa.2 j (by rw [w00]; exact hj)]
  · have := r4 t (by rw [g0, w01]; exact ht)
    refine ⟨?_, this.2⟩
    rw [this.1, wb.2 t (by rw [wa.1 0 (by decide), w01]; exact ht)]
theorem fi_begin : (x_X6_begin S0 4 3).2 = .inl 0 ∧ FI 0 (x_X6_begin S0 4 3).1 (fun _ => 2) (fun _ => 3) := by
  have h := inv_0
  have v6 : VN 6 (3 : Int32) := ⟨by decide +kernel, by decide +kernel⟩
  have v3 : VN 3 (1 : Int32) := ⟨by decide +kernel, by decide +kernel⟩
  have w6 : VN 6 (4 : Int32) := ⟨by decide +kernel, by decide +kernel⟩
  have w3 : VN 3 (3 : Int32) := ⟨by decide +kernel, by decide +kernel⟩
  have s0 : S0 1 = x_X1_build mz 3 1 := rfl
  have z := bld (u := mz) v6 v3
  have o1 : ¬ x_X6_isOutside 4 1 6 = true := by
    rw [x_X6_isOutside_eq]
    decide
  have o2 : ¬ x_X6_isOutside 3 1 3 = true := by
    rw [x_X6_isOutside_eq]
    decide
  have of : (x_X6_begin S0 4 3).2 = .inl 0 ∧ (x_X6_begin S0 4 3).1 1 = x_X1_build (S0 1) 4 3 := by
    rw [x_X6_begin_eq]
    unfold y_X6_begin
    rw [if_neg o1, if_neg o2]
    dsimp only
    rw [us_same, sv_u (Or.inl rfl) h.1.2.1 h.1.1, s0, z.2.2.1]
    exact ⟨rfl, rfl⟩
  refine ⟨of.1, ?_, ?_⟩
  · have x := (call_begin (p1 := 4) (p2 := 3) h (Nat.le_refl 0) (by decide)).2
    rw [of.1] at x
    exact ⟨_, x⟩
  · have y := bld (u := S0 1) w6 w3
    rw [of.2]
    refine ⟨⟨y.1, y.2.1, y.2.2.1, ?_, ?_⟩, y.2.2.2.2.1, y.2.2.2.2.2.1, y.2.2.2.2.2.2⟩
    · rw [y.2.2.2.1 4 (by decide), s0, z.2.2.2.1 4 (by decide)]
      rfl
    · rw [y.2.2.2.1 5 (by decide), s0, z.2.2.2.1 5 (by decide)]
      rfl
theorem fi_span (h : FI B S sp st) (hj : j < 4) (ho : ¬ x_X6_isOutside v 1 4 = true) : (x_X6_setSpan S (nI j) v).2 = .inl (sp j) ∧ FI B (x_X6_setSpan S (nI j) v).1 (upd sp j v) st := by
  obtain ⟨⟨μ, h⟩, g⟩ := h
  obtain ⟨g0, g4, g1, g2⟩ := id g
  have hs : x_X1_hasStand (S 1) (nI j) = true := by
    rw [x_X1_hasStand_eq]
    unfold y_X1_hasStand
    rw [if_neg (nI_pos (by omega)), if_pos (by rw [g0.1.1]; exact nI_lt (a := j) (b := 4) hj (by decide))]
  have of : (x_X6_setSpan S (nI j) v).2 = .inl (sp j) ∧ (x_X6_setSpan S (nI j) v).1 1 = up3 (S 1) 1 j 0 v := by
    rw [x_X6_setSpan_eq]
    unfold y_X6_setSpan
    rw [if_pos hs, if_neg ho, ix_nI (by omega)]
    dsimp only
    rw [us_same, sv_u (Or.inl rfl) h.1.2.1 h.1.1, (g1 j hj).1]
    exact ⟨rfl, rfl⟩
  refine ⟨of.1, ?_, ?_⟩
  · have x := (call_setSpan (p1 := nI j) (p2 := v) h (Nat.le_refl B) h.2.1).2
    rw [of.1] at x
    exact ⟨_, x⟩
  · rw [of.2]
    have e0 : ∀ z, up3 (S 1) 1 j 0 v 0 0 z = S 1 0 0 z := fun z => up3_ne (by omega)
    refine ⟨by rw [e0, e0, e0, e0, e0, e0]; exact g0, by rw [up3_ne (by omega)]; exact g4, fun i hi => ?_, fun t ht => ?_⟩
    · rw [up3_ne (k' := 1) (by omega), up3_ne (k' := 2) (by omega)]
      refine ⟨?_, (g1 i hi).2⟩
      unfold upd
      by_cases e : i = j
      · subst e
        rw [up3_self, if_pos rfl]
      · rw [up3_ne (by omega), if_neg e]
        exact (g1 i hi).1
    · rw [up3_ne (by omega), up3_ne (by omega), up3_ne (by omega), up3_ne (by omega), up3_ne (by omega)]
      exact g2 t ht
theorem fi_str (h : FI B S sp st) (hj : j < 3) (ho : ¬ x_X6_isOutside v 1 3 = true) : (x_X6_setStrength S (nI j) v).2 = .inl (st j) ∧ FI B (x_X6_setStrength S (nI j) v).1 sp (upd st j v) := by
  obtain ⟨⟨μ, h⟩, g⟩ := h
  obtain ⟨g0, g4, g1, g2⟩ := id g
  have hs : x_X1_hasTug (S 1) (nI j) = true := by
    rw [x_X1_hasTug_eq]
    unfold y_X1_hasTug
    rw [if_neg (nI_pos (by omega)), if_pos (by rw [g0.1.2]; exact nI_lt (a := j) (b := 3) hj (by decide))]
  have of : (x_X6_setStrength S (nI j) v).2 = .inl (st j) ∧ (x_X6_setStrength S (nI j) v).1 1 = up3 (S 1) 2 j 0 v := by
    rw [x_X6_setStrength_eq]
    unfold y_X6_setStrength
    rw [if_pos hs, if_neg ho, ix_nI (by omega)]
    dsimp only
    rw [us_same, sv_u (Or.inl rfl) h.1.2.1 h.1.1, (g2 j hj).1]
    exact ⟨rfl, rfl⟩
  refine ⟨of.1, ?_, ?_⟩
  · have x := (call_setStrength (p1 := nI j) (p2 := v) h (Nat.le_refl B) h.2.1).2
    rw [of.1] at x
    exact ⟨_, x⟩
  · rw [of.2]
    have e0 : ∀ z, up3 (S 1) 2 j 0 v 0 0 z = S 1 0 0 z := fun z => up3_ne (by omega)
    refine ⟨by rw [e0, e0, e0, e0, e0, e0]; exact g0, by rw [up3_ne (by omega)]; exact g4, fun i hi => ?_, fun t ht => ?_⟩
    · rw [up3_ne (by omega), up3_ne (by omega), up3_ne (by omega)]
      exact g1 i hi
    · rw [up3_ne (k' := 1) (by omega), up3_ne (k' := 2) (by omega), up3_ne (k' := 3) (by omega), up3_ne (k' := 4) (by omega)]
      refine ⟨?_, (g2 t ht).2⟩
      unfold upd
      by_cases e : t = j
      · subst e
        rw [up3_self, if_pos rfl]
      · rw [up3_ne (by omega), if_neg e]
        exact (g2 t ht).1
theorem FI.sk (h : FI B S sp st) : SK B S := h.1.elim fun _ z => z.1
theorem FI.bd (h : FI B S sp st) : B + 200000 < 2147483648 := h.1.elim fun _ z => z.2.1
theorem FB.gx (h : FB m sp st) (h1 : ∀ i j, i < 4 → j < 4 → sp i = sp j → i = j) (h2 : ∀ i j, i < 3 → j < 3 → st i = st j → i = j) : GX m := by
  obtain ⟨g0, g4, g1, g2⟩ := h
  have n0 : ix (m 0 0 0) = 4 := by rw [g0.1.1]; rfl
  have n1 : ix (m 0 0 1) = 3 := by rw [g0.1.2]; rfl
  have n2 : ix (m 0 0 2) = 0 := by rw [g0.2.1]; rfl
  refine ⟨?_, ?_, ?_⟩
  · unfold GS
    rw [n0, n1, n2]
    refine ⟨fun _ p _ hp => absurd hp (Nat.not_lt_zero p), fun j hj z => z.1.1 (g1 j (by omega)).2.1, fun p hp => absurd hp (Nat.not_lt_zero p), fun t ht => ⟨fun _ => (g2 t ht).2.2.1, fun p hp => absurd hp (Nat.not_lt_zero p)⟩, fun t t' ht _ _ z => absurd (g2 t ht).2.1 z⟩
  · unfold SM
    rw [n0, n2]
    show (0 : Int32) = 0 + m 1 0 2 + m 1 1 2 + m 1 2 2 + m 1 3 2
    rw [(g1 0 (by decide)).2.2, (g1 1 (by decide)).2.2, (g1 2 (by decide)).2.2, (g1 3 (by decide)).2.2]
    decide
  · unfold DS
    rw [n0, n1]
    refine ⟨fun i j hi hj e => ?_, fun i j hi hj e => ?_⟩
    · rw [(g1 i hi).1, (g1 j hj).1] at e
      exact h1 i j hi hj e
    · rw [(g2 i hi).1, (g2 j hj).1] at e
      exact h2 i j hi hj e
theorem LI.of (h : FI B S sp st) (h' : FI B T sp' st') (e1 : ∀ j, j < 4 → sp' (3 - j) = sp j) (e2 : ∀ t, t < 3 → st' (2 - t) = st t) (i1 : ∀ i j, i < 4 → j < 4 → sp i = sp j → i = j) (i2 : ∀ i j, i < 3 → j < 3 → st i = st j → i = j) : LI B S T ∧ S 1 0 0 3 = 0 := by
  obtain ⟨a, g⟩ := h
  obtain ⟨b, g'⟩ := h'
  have s1 : ∀ j, j < 4 → sp' j = sp (3 - j) := fun j hj => by
    have := e1 (3 - j) (by omega)
    rw [show 3 - (3 - j) = j by omega] at this
    exact this
  have s2 : ∀ j, j < 3 → st' j = st (2 - j) := fun j hj => by
    have := e2 (2 - j) (by omega)
    rw [show 2 - (2 - j) = j by omega] at this
    exact this
  refine ⟨⟨a, b, g.gx i1 i2, g'.gx (fun i j hi hj e => ?_) (fun i j hi hj e => ?_), ?_⟩, g.1.2.2.1⟩
  · rw [s1 i hi, s1 j hj] at e
    have := i1 _ _ (by omega) (by omega) e
    omega
  · rw [s2 i hi, s2 j hj] at e
    have := i2 _ _ (by omega) (by omega) e
    omega
  · obtain ⟨g0, g4, g1, g2⟩ := g
    obtain ⟨x0, x4, x1, x2⟩ := g'
    refine ⟨fun z hz => ?_, g0.1, fun j k hj hk => ?_, fun t k ht hk => ?_, fun p k hp => ?_, by rw [g4, x4]⟩
    · match z, hz with
      | 0, _ => rw [g0.1.1, x0.1.1]
      | 1, _ => rw [g0.1.2, x0.1.2]
      | 2, _ => rw [g0.2.1, x0.2.1]
      | 3, _ => rw [g0.2.2.1, x0.2.2.1]
      | 4, _ => rw [g0.2.2.2.1, x0.2.2.2.1]
      | 5, _ => rw [g0.2.2.2.2, x0.2.2.2.2]
    · have a := g1 j hj
      have b := x1 (3 - j) (by omega)
      match k, hk with
      | 0, _ => rw [a.1, b.1, e1 j hj]
      | 1, _ => rw [a.2.1, b.2.1]
      | 2, _ => rw [a.2.2, b.2.2]
    · have a := g2 t ht
      have b := x2 (2 - t) (by omega)
      match k, hk with
      | 0, _ => rw [a.1, b.1, e2 t ht]
      | 1, _ => rw [a.2.1, b.2.1]
      | 2, _ => rw [a.2.2.1, b.2.2.1]
      | 3, _ => rw [a.2.2.2.1, b.2.2.2.1]
      | 4, _ => rw [a.2.2.2.2, b.2.2.2.2]
    · rw [g0.2.1] at hp
      exact absurd hp (Nat.not_lt_zero p)
end STF
