/-! the setting calls -/
section SETS
variable {B B' : Nat} {S : Sys} {μ μ' u u' : Mem} {a : Nat → Int32} {v x p1 p2 p3 p4 : Int32}
theorem INV.set1 (h : INV B S μ) (hK : FK u) (hv : VN B (u 4 0 0)) (hF : FR u (μ' 1 0)) (h0 : μ' 0 = μ 0) (h2 : μ' 2 = μ 2) (h5 : μ' 5 = μ 5) : INV B (us S 1 u) μ' := by
  obtain ⟨k, b, -, c, i, r, t, tx⟩ := h
  refine ⟨sk_us k (by decide) (by decide) hK hv, b, ?_, ?_, fun i' j => ?_, fun i' hi => ?_, ?_, fun z hz => ?_⟩
  · rw [us_same]; exact hF
  · rw [us_ne (by decide), h0]; exact c
  · rw [us_ne (by decide)]; exact i i' j
  · have e0 : us S 1 u 0 = S 0 := us_ne (by decide)
    rw [e0] at hi ⊢
    rw [us_ne (by omega), h2]
    exact r i' hi
  · rw [us_ne (by decide), h0]; exact t
  · rw [us_ne (by decide)] at hz ⊢
    rw [h5]
    exact tx z hz
theorem FR.up {k : Nat} (h : FR u (μ 1 0)) (hV : RV u' (up3 μ 1 0 k v 1 0)) (hI : IN u') (hm : u' 0 0 3 = u 0 0 3) (hk : k ≠ 0 ∧ k ≠ 1 ∧ k ≠ 2 ∧ k ≠ 3 ∧ k ≠ 7 ∧ k ≠ 21 ∧ k ≠ 26 ∧ k ≠ 31) (h9 : ∀ j, j < 6 → 8 + 2 * j + 1 ≠ k) (h8 : ∀ t, t < 3 → 20 + 5 * t + 3 ≠ k ∧ 20 + 5 * t + 4 ≠ k) : FR u' (up3 μ 1 0 k v 1 0) := by
  obtain ⟨k0, k1, k2, k3, k7, k21, k26, k31⟩ := hk
  refine ⟨hV, hI, ⟨by rw [hm]; exact h.2.2.1.1, by rw [up3_k k1.symm]; exact h.2.2.1.2.1, fun t ht l => ?_⟩, ⟨?_, fun j hj => ?_⟩, ?_⟩
  · rw [up3_k k1.symm] at l
    rw [up3_k (h8 t ht).1, up3_k (h8 t ht).2]
    exact h.2.2.1.2.2 t ht l
  · rw [up3_k k3.symm]; exact h.2.2.2.1.1
  · rw [up3_k k3.symm, up3_k (h9 j hj)]; exact h.2.2.2.1.2 j hj
  · unfold MKa
    rw [up3_k k0.symm, up3_k k1.symm, up3_k k2.symm, up3_k k7.symm, up3_k k21.symm, up3_k k26.symm, up3_k k31.symm]
    exact h.2.2.2.2
theorem IN.span {j : Nat} (h : IN u) : IN (up3 u 1 j 0 v) := by
  refine IN.mk' h (congrFun (up3_fam (by decide)) 0) ?_ ?_ ?_
  · have e : (fun i => up3 u 1 j 0 v 1 i 1) = fun i => u 1 i 1 := funext fun i => up3_ne (by simp)
    rw [e]
    simp only [up3_fam (f' := 3) (f := 1) (by decide)]
    exact h.2.1
  · unfold IT
    simp only [up3_fam (f' := 2) (f := 1) (by decide)]
    exact h.2.2.1
  · unfold IQ
    simp only [up3_fam (f' := 3) (f := 1) (by decide)]
    exact h.2.2.2
theorem IN.strength {t : Nat} (h : IN u) : IN (up3 u 2 t 0 v) := by
  refine IN.mk' h (congrFun (up3_fam (by decide)) 0) ?_ ?_ ?_
  · simp only [up3_fam (f' := 3) (f := 2) (by decide), up3_fam (f' := 1) (f := 2) (by decide)]
    exact h.2.1
  · intro i hi
    rw [up3_ne (by simp), up3_ne (by simp)]
    exact h.2.2.1 i hi
  · unfold IQ
    simp only [up3_fam (f' := 3) (f := 2) (by decide)]
    exact h.2.2.2
theorem IN.leaves {q : Nat} (h : IN u) (hv : VN 1999 v) : IN (up3 u 3 q 3 v) := by
  refine IN.mk' h (congrFun (up3_fam (by decide)) 0) ?_ ?_ ?_
  · have e5 : (fun i => up3 u 3 q 3 v 3 i 5) = fun i => u 3 i 5 := funext fun i => up3_ne (by simp)
    have e6 : (fun i => up3 u 3 q 3 v 3 i 6) = fun i => u 3 i 6 := funext fun i => up3_ne (by simp)
    rw [e5, e6]
    simp only [up3_fam (f' := 1) (f := 3) (by decide)]
    exact h.2.1
  · unfold IT
    simp only [up3_fam (f' := 2) (f := 3) (by decide)]
    exact h.2.2.1
  · intro p hp
    rw [up3_ne (by simp), up3_ne (k' := 7) (by simp)]
    refine ⟨(h.2.2.2 p hp).1, ?_, (h.2.2.2 p hp).2.2⟩
    by_cases e : p = q
    · subst e
      rw [up3_self]
      exact hv
    · rw [up3_ne (by omega)]
      exact (h.2.2.2 p hp).2.1
theorem IN.curfew {k : Nat} (h : IN u) (hk : k = 4 ∨ k = 5) (hv : VN 1440 v) : IN (up3 u 0 0 k v) := by
  have e : ∀ i, i < 3 → up3 u 0 0 k v 0 0 i = u 0 0 i := fun i hi => up3_ne (by omega)
  refine ⟨?_, ?_, ?_, ?_⟩
  · obtain ⟨c0, c1, c2, c3, c4, c5, c6⟩ := h.1
    unfold IC
    rw [e 0 (by decide), e 1 (by decide), e 2 (by decide), up3_ne (k' := 3) (by omega)]
    refine ⟨c0, c1, c2, c3, ?_, ?_, c6⟩
    · rcases hk with rfl | rfl
      · rw [up3_self]; exact hv
      · rw [up3_ne (by decide)]; exact c4
    · rcases hk with rfl | rfl
      · rw [up3_ne (by decide)]; exact c5
      · rw [up3_self]; exact hv
  · rw [e 0 (by decide), e 2 (by decide)]
    simp only [up3_fam (f' := 1) (f := 0) (by decide), up3_fam (f' := 3) (f := 0) (by decide)]
    exact h.2.1
  · rw [e 1 (by decide), e 2 (by decide)]
    unfold IT
    simp only [up3_fam (f' := 2) (f := 0) (by decide)]
    exact h.2.2.1
  · rw [e 2 (by decide)]
    unfold IQ
    simp only [up3_fam (f' := 3) (f := 0) (by decide)]
    exact h.2.2.2
/-! begin -/
theorem FR.begin' (h4 : u 0 0 4 = μ 1 0 4) (h5 : u 0 0 5 = μ 1 0 5) (v4 : VN 1440 (μ 1 0 4)) (v5 : VN 1440 (μ 1 0 5)) (v1 : VN 6 p1) (nz : ¬ p1 = 0) (v2 : VN 3 p2) (nz2 : ¬ p2 = 0) : FR (x_X1_build u p1 p2) (x_X7_begins μ p1 p2 1 0) := by
  rw [x_X1_build_eq, x_X7_begins_eq]
  unfold y_X1_build y_X7_begins
  generalize hw0 : up3 (up3 u 0 0 0 p1) 0 0 1 p2 = w0
  generalize hn0 : up3 (up3 μ 1 0 0 p1) 1 0 1 p2 = n0
  have w00 : w0 0 0 0 = p1 := by rw [← hw0, up3_ne (by decide), up3_self]
  have w01 : w0 0 0 1 = p2 := by rw [← hw0, up3_self]
  have w0k : ∀ k, 2 ≤ k → w0 0 0 k = u 0 0 k := fun k hk => by rw [← hw0, up3_ne (by omega), up3_ne (by omega)]
  have n00 : n0 1 0 0 = p1 := by rw [← hn0, up3_k (by decide), up3_self]
  have n01 : n0 1 0 1 = p2 := by rw [← hn0, up3_self]
  have n0k : ∀ k, 2 ≤ k → n0 1 0 k = μ 1 0 k := fun k hk => by rw [← hn0, up3_k (by omega), up3_k (by omega)]
  have wa : (∀ f, f ≠ 1 → lf_X1_build_12 p1 p2 (ix (w0 0 0 0)) w0 f = w0 f) ∧ ∀ j, j < ix (w0 0 0 0) → lf_X1_build_12 p1 p2 (ix (w0 0 0 0)) w0 1 j 0 = 2 := by
    rw [lf_X1_build_12_eq]
    unfold ly_X1_build_12
    refine itr_inv (n := ix (w0 0 0 0)) (s := w0) (P := fun j (s : Mem) => (∀ f, f ≠ 1 → s f = w0 f) ∧ ∀ i, i < j → s 1 i 0 = 2) (fun jz s => bd_X1_build_12 p1 p2 jz s) (fun j s hj g => ?_) ⟨fun _ _ => rfl, fun i hi => absurd hi (Nat.not_lt_zero i)⟩
    refine ⟨fun f hf => (up3_fam hf).trans (g.1 f hf), fun i hi => ?_⟩
    show up3 s 1 j 0 2 1 i 0 = 2
    by_cases e : i = j
    · subst e; rw [up3_self]
    · rw [up3_ne (by omega)]; exact g.2 i (by omega)
  generalize lf_X1_build_12 p1 p2 (ix (w0 0 0 0)) w0 = w1 at wa ⊢
  have wb : (∀ f, f ≠ 2 → lf_X1_build_38 p1 p2 (ix (w1 0 0 1)) w1 f = w1 f) ∧ ∀ j, j < ix (w1 0 0 1) → lf_X1_build_38 p1 p2 (ix (w1 0 0 1)) w1 2 j 0 = 3 := by
    rw [lf_X1_build_38_eq]
    unfold ly_X1_build_38
    refine itr_inv (n := ix (w1 0 0 1)) (s := w1) (P := fun j (s : Mem) => (∀ f, f ≠ 2 → s f = w1 f) ∧ ∀ i, i < j → s 2 i 0 = 3) (fun jz s => bd_X1_build_38 p1 p2 jz s) (fun j s hj g => ?_) ⟨fun _ _ => rfl, fun i hi => absurd hi (Nat.not_lt_zero i)⟩
    refine ⟨fun f hf => (up3_fam hf).trans (g.1 f hf), fun i hi => ?_⟩
    show up3 s 2 j 0 3 2 i 0 = 3
    by_cases e : i = j
    · subst e; rw [up3_self]
    · rw [up3_ne (by omega)]; exact g.2 i (by omega)
  generalize lf_X1_build_38 p1 p2 (ix (w1 0 0 1)) w1 = w2 at wb ⊢
  have na : (∀ k, (k < 8 ∨ 20 ≤ k) → lf_X7_begins_16 p1 p2 6 n0 1 0 k = n0 1 0 k) ∧ ∀ j, j < 6 → lf_X7_begins_16 p1 p2 6 n0 1 0 (8 + 2 * j + 0) = 2 := by
    rw [lf_X7_begins_16_eq]
    unfold ly_X7_begins_16
    refine itr_inv (n := 6) (s := n0) (P := fun j (s : Mem) => (∀ k, (k < 8 ∨ 20 ≤ k) → s 1 0 k = n0 1 0 k) ∧ ∀ i, i < j → s 1 0 (8 + 2 * i + 0) = 2) (fun jz s => bd_X7_begins_16 p1 p2 jz s) (fun j s hj g => ?_) ⟨fun _ _ => rfl, fun i hi => absurd hi (Nat.not_lt_zero i)⟩
    refine ⟨fun k hk => (up3_k (by omega)).trans (g.1 k hk), fun i hi => ?_⟩
    show up3 s 1 0 (8 + 2 * j + 0) 2 1 0 (8 + 2 * i + 0) = 2
    by_cases e : i = j
    · subst e; rw [up3_self]
    · rw [up3_k (by omega)]; exact g.2 i (by omega)
  generalize lf_X7_begins_16 p1 p2 6 n0 = n1 at na ⊢
  have nb : (∀ k, k < 20 → lf_X7_begins_41 p1 p2 3 n1 1 0 k = n1 1 0 k) ∧ ∀ j, j < 3 → lf_X7_begins_41 p1 p2 3 n1 1 0 (20 + 5 * j + 0) = 3 := by
    rw [lf_X7_begins_41_eq]
    unfold ly_X7_begins_41
    refine itr_inv (n := 3) (s := n1) (P := fun j (s : Mem) => (∀ k, k < 20 → s 1 0 k = n1 1 0 k) ∧ ∀ i, i < j → s 1 0 (20 + 5 * i + 0) = 3) (fun jz s => bd_X7_begins_41 p1 p2 jz s) (fun j s hj g => ?_) ⟨fun _ _ => rfl, fun i hi => absurd hi (Nat.not_lt_zero i)⟩
    refine ⟨fun k hk => (up3_k (by omega)).trans (g.1 k hk), fun i hi => ?_⟩
    show up3 s 1 0 (20 + 5 * j + 0) 3 1 0 (20 + 5 * i + 0) = 3
    by_cases e : i = j
    · subst e; rw [up3_self]
    · rw [up3_k (by omega)]; exact g.2 i (by omega)
  generalize lf_X7_begins_41 p1 p2 3 n1 = n2 at nb ⊢
  obtain ⟨r1, r2, r3, r4⟩ := rst (u := w2)
  obtain ⟨c1, c2, c3, c4⟩ := clr (μ := n2)
  have g0 : ∀ k, w2 0 0 k = w0 0 0 k := fun k => by rw [wb.1 0 (by decide), wa.1 0 (by decide)]
  have q0 : ∀ k, k < 8 → n2 1 0 k = n0 1 0 k := fun k hk => by rw [nb.1 k (by omega), na.1 k (by omega)]
  have k0 : x_X7_clears n2 1 0 0 = p1 := by rw [c2 0 (by decide), q0 0 (by decide), n00]
  have k1 : x_X7_clears n2 1 0 1 = p2 := by rw [c2 1 (by decide), q0 1 (by decide), n01]
  have k4 : x_X7_clears n2 1 0 4 = μ 1 0 4 := by rw [c2 4 (by decide), q0 4 (by decide), n0k 4 (by decide)]
  have k5 : x_X7_clears n2 1 0 5 = μ 1 0 5 := by rw [c2 5 (by decide), q0 5 (by decide), n0k 5 (by decide)]
  refine fr_new (fun k hk => ?_) c1.1 c1.2.1 c1.2.2.1 c1.2.2.2 r1.2.2 (by rw [k0]; exact v1) (by rw [k1]; exact v2) (by rw [k0]; exact nz) (by rw [k1]; exact nz2) (by rw [k4]; exact v4) (by rw [k5]; exact v5) (fun j hj => ?_) (fun j hj => (c3 j hj).2) (fun t ht => ?_) (fun t ht => (c4 t ht).2)
  · match k, hk with
    | 0, _ => rw [r2 0 (by decide) (by decide), k0, g0, w00]
    | 1, _ => rw [r2 1 (by decide) (by decide), k1, g0, w01]
    | 2, _ => rw [r1.1, c1.1]
    | 3, _ => rw [r1.2.1, c1.2.1]
    | 4, _ => rw [r2 4 (by decide) (by decide), k4, g0, w0k 4 (by decide)]; exact h4
    | 5, _ => rw [r2 5 (by decide) (by decide), k5, g0, w0k 5 (by decide)]; exact h5
  · rw [k0] at hj
    have b1 := v1.2
    have := r3 j (by rw [g0, w00]; exact hj)
    rw [(c3 j (by omega)).1, nb.1 _ (by omega), na.2 j (by omega), this.1, wb.1 1 (by decide), wa.2 j (by rw [w00]; exact hj)]
    exact ⟨rfl, this.2⟩
  · rw [k1] at ht
    have b2 := v2.2
    have := r4 t (by rw [g0, w01]; exact ht)
    rw [(c4 t (by omega)).1, nb.2 t (by omega), this.1, wb.2 t (by rw [wa.1 0 (by decide), w01]; exact ht)]
    exact ⟨rfl, this.2⟩
theorem FR.begin (h : FR u (μ 1 0)) (v1 : VN 6 p1) (nz : ¬ p1 = 0) (v2 : VN 3 p2) (nz2 : ¬ p2 = 0) : FR (x_X1_build u p1 p2) (x_X7_begins μ p1 p2 1 0) :=
  FR.begin' (h.1.1 4 (by decide)) (h.1.1 5 (by decide)) (by rw [← h.1.c (k := 4) (by decide)]; exact h.2.1.1.2.2.2.2.1) (by rw [← h.1.c (k := 5) (by decide)]; exact h.2.1.1.2.2.2.2.2.1) v1 nz v2 nz2
theorem fk_build (h : FK u) (v1 : VN 6 p1) (v2 : VN 3 p2) : FK (x_X1_build u p1 p2) := by
  rw [x_X1_build_eq]
  unfold y_X1_build
  have hW : FW (ix (u 4 0 0)) u u ∨ True := Or.inr trivial
  refine fk_restart ?_
  have b1 := v1.2
  have b2 := v2.2
  have f0 : FK (up3 (up3 u 0 0 0 p1) 0 0 1 p2) := by
    refine ⟨?_, ?_, ?_, fun j hj => ?_, fun j hj => ?_, fun j hj => ?_⟩
    · rw [up3_ne (by decide), up3_self]; exact v1
    · rw [up3_self]; exact v2
    · rw [up3_ne (by decide), up3_ne (by decide)]; exact h.na
    · rw [up3_fam (by decide), up3_fam (by decide)]; exact h.st hj
    · rw [up3_fam (by decide), up3_fam (by decide)]; exact h.tu hj
    · rw [up3_fam (by decide), up3_fam (by decide)]; exact h.ac hj
  generalize up3 (up3 u 0 0 0 p1) 0 0 1 p2 = w0 at f0 ⊢
  have f1 : FK (lf_X1_build_12 p1 p2 (ix (w0 0 0 0)) w0) := by
    rw [lf_X1_build_12_eq]
    unfold ly_X1_build_12
    exact itr_inv (n := ix (w0 0 0 0)) (s := w0) (P := fun j (s : Mem) => FK s) (fun jz s => bd_X1_build_12 p1 p2 jz s) (fun j s hj g => g.up rfl) f0
  generalize lf_X1_build_12 p1 p2 (ix (w0 0 0 0)) w0 = w1 at f1 ⊢
  rw [lf_X1_build_38_eq]
  unfold ly_X1_build_38
  exact itr_inv (n := ix (w1 0 0 1)) (s := w1) (P := fun j (s : Mem) => FK s) (fun jz s => bd_X1_build_38 p1 p2 jz s) (fun j s hj g => g.up rfl) f1
theorem tot_build : x_X1_build u p1 p2 4 0 0 = 0 := by
  rw [x_X1_build_eq]
  exact rst.1.2.2
theorem fam_clears {f : Nat} (hf : f ≠ 1) : x_X7_clears μ f = μ f := by
  rw [x_X7_clears_eq]
  unfold y_X7_clears
  have l1 : ∀ s : Mem, lf_X7_clears_115 210 s f = s f := fun s => by
    rw [lf_X7_clears_115_eq]
    unfold ly_X7_clears_115
    exact itr_inv (n := 210) (s := s) (P := fun _ (t : Mem) => t f = s f) (fun jz s => bd_X7_clears_115 jz s) (fun j t hj g => (up3_fam hf).trans g) rfl
  have l2 : ∀ s : Mem, lf_X7_clears_57 3 s f = s f := fun s => by
    rw [lf_X7_clears_57_eq]
    unfold ly_X7_clears_57
    refine itr_inv (n := 3) (s := s) (P := fun _ (t : Mem) => t f = s f) (fun jz s => bd_X7_clears_57 jz s) (fun j t hj g => ?_) rfl
    have e : bd_X7_clears_57 j t = up3 (up3 (up3 (up3 t 1 0 (20 + 5 * j + 1) (-1)) 1 0 (20 + 5 * j + 2) 0) 1 0 (20 + 5 * j + 3) 0) 1 0 (20 + 5 * j + 4) 0 := rfl
    show bd_X7_clears_57 j t f = s f
    rw [e, up3_fam hf, up3_fam hf, up3_fam hf, up3_fam hf]
    exact g
  have l3 : ∀ s : Mem, lf_X7_clears_32 6 s f = s f := fun s => by
    rw [lf_X7_clears_32_eq]
    unfold ly_X7_clears_32
    exact itr_inv (n := 6) (s := s) (P := fun _ (t : Mem) => t f = s f) (fun jz s => bd_X7_clears_32 jz s) (fun j t hj g => (up3_fam hf).trans g) rfl
  rw [l1, l2, l3, up3_fam hf, up3_fam hf, up3_fam hf, up3_fam hf]
theorem fam_begins {f : Nat} (hf : f ≠ 1) : x_X7_begins μ p1 p2 f = μ f := by
  rw [x_X7_begins_eq]
  unfold y_X7_begins
  have l1 : ∀ s : Mem, lf_X7_begins_16 p1 p2 6 s f = s f := fun s => by
    rw [lf_X7_begins_16_eq]
    unfold ly_X7_begins_16
    exact itr_inv (n := 6) (s := s) (P := fun _ (t : Mem) => t f = s f) (fun jz s => bd_X7_begins_16 p1 p2 jz s) (fun j t hj g => (up3_fam hf).trans g) rfl
  have l2 : ∀ s : Mem, lf_X7_begins_41 p1 p2 3 s f = s f := fun s => by
    rw [lf_X7_begins_41_eq]
    unfold ly_X7_begins_41
    exact itr_inv (n := 3) (s := s) (P := fun _ (t : Mem) => t f = s f) (fun jz s => bd_X7_begins_41 p1 p2 jz s) (fun j t hj g => (up3_fam hf).trans g) rfl
  rw [fam_clears hf, l2, l1, up3_fam hf, up3_fam hf]
theorem out_n0 {c : Int32} (h : ¬ x_X6_isOutside x 1 c = true) : ¬ x = 0 := fun e => (out_of h).1 (by rw [e]; decide)
theorem call_begin (h : INV B S μ) (hb : B ≤ B') (hB : B' + 200000 < 2147483648) : ST B' ct_L_begin S (x_X6_begin S p1 p2).2 (x_X6_begin S p1 p2).1 (x_X7_begin μ p1 p2) := by
  rw [x_X6_begin_eq, x_X7_begin_eq]
  unfold y_X6_begin y_X7_begin
  rw [in_lit (x := p1) (a := 1) (c := 6) (by decide) (by decide), in_lit (x := p2) (a := 1) (c := 3) (by decide) (by decide)]
  by_cases h1 : x_X6_isOutside p1 1 6 = true
  · rw [if_pos h1, h1, if_neg (show ¬ (!true) = true by decide)]
    exact ST.throw h hb hB (by unfold ct_L_begin; simp) (by decide)
  · rw [if_neg h1, eq_false_of_ne_true h1, if_pos (show (!false) = true from rfl)]
    by_cases h2 : x_X6_isOutside p2 1 3 = true
    · rw [if_pos h2, h2, if_neg (show ¬ (!true) = true by decide)]
      exact ST.throw h hb hB (by unfold ct_L_begin; simp) (by decide)
    · rw [if_neg h2, eq_false_of_ne_true h2, if_pos (show (!false) = true from rfl)]
      have v1 : VN 6 p1 := out_VN (by decide) (by decide) (by decide) h1
      have v2 : VN 3 p2 := out_VN (by decide) (by decide) (by decide) h2
      have hs := save_rel h
      have e := save_1 h
      have ev : x_X7_save μ 1 0 3 = S 1 0 0 3 := by
        rw [e.2]
        exact (h.2.2.1.1.c (k := 3) (by decide)).symm
      rw [ev]
      refine ST.fine ((hs.set1 (fk_build hs.1.f1 v1 v2) (by rw [tot_build]; exact vn_0) (hs.2.2.1.begin v1 (out_n0 h1) v2 (out_n0 h2)) (fam_begins (by decide)) (fam_begins (by decide)) (fam_begins (by decide))).mono hb hB)
theorem call_setSpan (h : INV B S μ) (hb : B ≤ B') (hB : B' + 200000 < 2147483648) : ST B' ct_L_setSpan S (x_X6_setSpan S p1 p2).2 (x_X6_setSpan S p1 p2).1 (x_X7_setSpan μ p1 p2) := by
  rw [x_X6_setSpan_eq, x_X7_setSpan_eq]
  unfold y_X6_setSpan y_X7_setSpan
  rw [in_lit (x := p2) (a := 1) (c := 4) (by decide) (by decide), ← hs_eq h.2.2.1.1]
  by_cases h1 : x_X1_hasStand (S 1) p1 = true
  · rw [if_pos h1, if_pos h1]
    by_cases h2 : x_X6_isOutside p2 1 4 = true
    · rw [if_pos h2, h2, if_neg (show ¬ (!true) = true by decide)]
      exact ST.throw h hb hB (by unfold ct_L_setSpan; simp) (by decide)
    · rw [if_neg h2, eq_false_of_ne_true h2, if_pos (show (!false) = true from rfl)]
      have hs := save_rel h
      have e := save_1 h
      have hF := hs.2.2.1
      have b := (has_S h.1.f1 h1).2
      have b6 := h.2.2.1.2.1.ns.2
      have ev : x_X7_save μ 1 0 (8 + 2 * ix p1 + 0) = S 1 1 (ix p1) 0 := by
        rw [e.2]
        exact (h.2.2.1.1.s0 b).symm
      rw [ev]
      refine ST.fine ((hs.set1 (hs.1.f1.up rfl) (by rw [up3_fam (by decide)]; exact hs.1.w1.2.1) (hF.up (hF.1.upS0 (by omega)) hF.2.1.span (by rw [up3_fam (by decide)]) (by omega) (fun j hj => by omega) (fun t ht => by omega)) (up3_fam (by decide)) (up3_fam (by decide)) (up3_fam (by decide))).mono hb hB)
  · rw [if_neg h1, if_neg h1]
    exact ST.throw h hb hB (by unfold ct_L_setSpan; simp) (by decide)
theorem call_setStrength (h : INV B S μ) (hb : B ≤ B') (hB : B' + 200000 < 2147483648) : ST B' ct_L_setStrength S (x_X6_setStrength S p1 p2).2 (x_X6_setStrength S p1 p2).1 (x_X7_setStrength μ p1 p2) := by
  rw [x_X6_setStrength_eq, x_X7_setStrength_eq]
  unfold y_X6_setStrength y_X7_setStrength
  rw [in_lit (x := p2) (a := 1) (c := 3) (by decide) (by decide), ← ht_eq h.2.2.1.1]
  by_cases h1 : x_X1_hasTug (S 1) p1 = true
  · rw [if_pos h1, if_pos h1]
    by_cases h2 : x_X6_isOutside p2 1 3 = true
    · rw [if_pos h2, h2, if_neg (show ¬ (!true) = true by decide)]
      exact ST.throw h hb hB (by unfold ct_L_setStrength; simp) (by decide)
    · rw [if_neg h2, eq_false_of_ne_true h2, if_pos (show (!false) = true from rfl)]
      have hs := save_rel h
      have e := save_1 h
      have hF := hs.2.2.1
      have b := (has_T h.1.f1 h1).2
      have b3 := h.2.2.1.2.1.nt.2
      have ev : x_X7_save μ 1 0 (20 + 5 * ix p1 + 0) = S 1 2 (ix p1) 0 := by
        rw [e.2]
        exact (h.2.2.1.1.t b (by decide)).symm
      rw [ev]
      refine ST.fine ((hs.set1 (hs.1.f1.up rfl) (by rw [up3_fam (by decide)]; exact hs.1.w1.2.1) (hF.up (hF.1.upT hF.2.1.ns.2 (by omega) (by decide)) hF.2.1.strength (by rw [up3_fam (by decide)]) (by omega) (fun j hj => by omega) (fun t ht => by omega)) (up3_fam (by decide)) (up3_fam (by decide)) (up3_fam (by decide))).mono hb hB)
  · rw [if_neg h1, if_neg h1]
    exact ST.throw h hb hB (by unfold ct_L_setStrength; simp) (by decide)
theorem call_setLeaves (h : INV B S μ) (hb : B ≤ B') (hB : B' + 200000 < 2147483648) : ST B' ct_L_setLeaves S (x_X6_setLeaves S p1 p2).2 (x_X6_setLeaves S p1 p2).1 (x_X7_setLeaves μ p1 p2) := by
  rw [x_X6_setLeaves_eq, x_X7_setLeaves_eq]
  unfold y_X6_setLeaves y_X7_setLeaves
  rw [← ha_eq h.2.2.1.1]
  by_cases h1 : x_X1_hasAircraft (S 1) p1 = true
  · rw [if_pos h1, if_pos h1]
    have b := (has_A h.1.f1 h1).2
    have b12 := h.2.2.1.2.1.na.2
    have q2 : x_X7_of μ (ix p1) 2 = S 1 3 (ix p1) 2 := of_eq.trans (h.2.2.1.1.a b (by decide)).symm
    have q5 : x_X7_of μ (ix p1) 5 = S 1 3 (ix p1) 5 := of_eq.trans (h.2.2.1.1.a b (by decide)).symm
    rw [q2, q5]
    by_cases h2 : S 1 3 (ix p1) 2 < p2
    · rw [if_pos h2, if_pos h2]
      by_cases h3 : 1999 < p2
      · rw [if_pos h3, if_pos h3]
        exact ST.throw h hb hB (by unfold ct_L_setLeaves; simp) (by decide)
      · rw [if_neg h3, if_neg h3]
        have pl := h.2.2.1.2.1.2.1.1 (ix p1) b
        by_cases h4 : S 1 3 (ix p1) 5 = 4
        · rw [if_pos h4, h4, if_neg (show ¬ (4 : Int32) < 4 by decide)]
          exact ST.throw h hb hB (by unfold ct_L_setLeaves; simp) (by decide)
        · rw [if_neg h4]
          by_cases h5 : S 1 3 (ix p1) 5 = 5
          · rw [if_pos h5, h5, if_neg (show ¬ (5 : Int32) < 4 by decide)]
            exact ST.throw h hb hB (by unfold ct_L_setLeaves; simp) (by decide)
          · have l4 : S 1 3 (ix p1) 5 < 4 := by
              rcases pl with ⟨(e | e | e | e), -⟩ | ⟨(e | e | e), -⟩
              all_goals first | exact absurd e h4 | exact absurd e h5 | (dsimp only at e; rw [e]; decide)
            rw [if_neg h5, if_pos l4]
            have hs := save_rel h
            have e := save_1 h
            have hF := hs.2.2.1
            have n2 := (h.2.2.1.2.1.2.2.2 (ix p1) b).1
            have v3 : VN 1999 p2 := by
              have nn : ¬ p2 < 0 := by
                have := vn_nn n2 (by decide)
                rw [Int32.lt_iff_toInt_lt] at this h2 ⊢
                omega
              refine ⟨ix_eq nn, ?_⟩
              rw [Int32.lt_iff_toInt_lt] at h3
              have e2 := ix_eq nn
              rcases Nat.lt_or_ge 1999 (ix p2) with g | g
              · exact absurd (by rw [Int32.lt_iff_toInt_lt] at nn; unfold ix at g; have : (1999 : Int32).toInt = 1999 := by decide +kernel
                                 have z : (0 : Int32).toInt = 0 := by decide +kernel
                                 rw [this]; omega) h3
              · exact g
            have ev : x_X7_of (x_X7_save μ) (ix p1) 3 = S 1 3 (ix p1) 3 := by
              rw [of_eq, e.2]
              exact (h.2.2.1.1.a b (by decide)).symm
            rw [ev]
            refine ST.fine ((hs.set1 (hs.1.f1.up rfl) (by rw [up3_fam (by decide)]; exact hs.1.w1.2.1) (hF.up (hF.1.upA hF.2.1.ns.2 hF.2.1.nt.2 (by omega) (by decide)) (hF.2.1.leaves v3) (by rw [up3_fam (by decide)]) (by omega) (fun j hj => by omega) (fun t ht => by omega)) (up3_fam (by decide)) (up3_fam (by decide)) (up3_fam (by decide))).mono hb hB)
    · rw [if_neg h2, if_neg h2]
      exact ST.throw h hb hB (by unfold ct_L_setLeaves; simp) (by decide)
  · rw [if_neg h1, if_neg h1]
    exact ST.throw h hb hB (by unfold ct_L_setLeaves; simp) (by decide)
theorem call_setCurfew (h : INV B S μ) (hb : B ≤ B') (hB : B' + 200000 < 2147483648) : ST B' ct_L_setCurfew S (x_X6_setCurfew S p1 p2).2 (x_X6_setCurfew S p1 p2).1 (x_X7_setCurfew μ p1 p2) := by
  rw [x_X6_setCurfew_eq, x_X7_setCurfew_eq]
  unfold y_X6_setCurfew y_X7_setCurfew
  rw [in_lit (x := p1) (a := 0) (c := 1440) (by decide) (by decide), in_lit (x := p2) (a := 0) (c := 1440) (by decide) (by decide)]
  by_cases h1 : x_X6_isOutside p1 0 1440 = true
  · rw [if_pos h1, h1, if_neg (show ¬ (!true) = true by decide)]
    exact ST.throw h hb hB (by unfold ct_L_setCurfew; simp) (by decide)
  · rw [if_neg h1, eq_false_of_ne_true h1, if_pos (show (!false) = true from rfl)]
    by_cases h2 : x_X6_isOutside p2 0 1440 = true
    · rw [if_pos h2, h2, if_neg (show ¬ (!true) = true by decide)]
      exact ST.throw h hb hB (by unfold ct_L_setCurfew; simp) (by decide)
    · rw [if_neg h2, eq_false_of_ne_true h2, if_pos (show (!false) = true from rfl)]
      have v1 : VN 1440 p1 := out_VN (by decide) (by decide) (by decide) h1
      have v2 : VN 1440 p2 := out_VN (by decide) (by decide) (by decide) h2
      have hs := save_rel h
      have hF := hs.2.2.1
      rw [us_us, us_same]
      have hF1 : FR (up3 (x_X6_save S 1) 0 0 4 p1) (up3 (x_X7_save μ) 1 0 4 p1 1 0) := hF.up (hF.1.upF (by decide) (by decide) hF.2.1.ns.2) (hF.2.1.curfew (Or.inl rfl) v1) (up3_ne (by decide)) (by decide) (fun j hj => by omega) (fun t ht => by omega)
      have hF2 : FR (up3 (up3 (x_X6_save S 1) 0 0 4 p1) 0 0 5 p2) (up3 (up3 (x_X7_save μ) 1 0 4 p1) 1 0 5 p2 1 0) := hF1.up (hF1.1.upF (by decide) (by decide) hF1.2.1.ns.2) (hF1.2.1.curfew (Or.inr rfl) v2) (up3_ne (by decide)) (by decide) (fun j hj => by omega) (fun t ht => by omega)
      have hI : INV B' (us (x_X6_save S) 1 (up3 (up3 (x_X6_save S 1) 0 0 4 p1) 0 0 5 p2)) (up3 (up3 (x_X7_save μ) 1 0 4 p1) 1 0 5 p2) := (hs.set1 ((hs.1.f1.up rfl).up rfl) (by rw [up3_fam (by decide), up3_fam (by decide)]; exact hs.1.w1.2.1) hF2 (by rw [up3_fam (by decide), up3_fam (by decide)]) (by rw [up3_fam (by decide), up3_fam (by decide)]) (by rw [up3_fam (by decide), up3_fam (by decide)])).mono hb hB
      have n1 := vn_nn v1 (by decide)
      have n2 := vn_nn v2 (by decide)
      by_cases h3 : p1 < p2
      · have g : 0 < p2 - p1 := by
          have e := nI_subE v2.1 v1.1 (by rw [vn_nlt v1 v2 (by decide) (by decide)] at h3; omega)
          rw [vn_nlt v1 v2 (by decide) (by decide)] at h3
          have b2 := v2.2
          have w : VN 1440 (p2 - p1) := ⟨by rw [e, ix_nI (by omega)], by rw [e, ix_nI (by omega)]; omega⟩
          rw [vn_nlt (vn_0 (K := 0)) w (by decide) (by decide), e, ix_nI (by omega), show ix (0 : Int32) = 0 by decide +kernel]
          omega
        rw [if_pos h3, if_pos g]
        exact ST.fine hI
      · have g : ¬ 0 < p2 - p1 := by
          rw [vn_nlt v1 v2 (by decide) (by decide)] at h3
          have b1 := v1.2
          have e := nI_subE v1.1 v2.1 (by omega)
          have w : VN 1440 (p1 - p2) := ⟨by rw [e, ix_nI (by omega)], by rw [e, ix_nI (by omega)]; omega⟩
          have wn := vn_nn w (by decide)
          have wb := w.2
          have e2 : p2 - p1 = -(p1 - p2) := by
            apply Int32.toBitVec_inj.mp
            simp only [Int32.toBitVec_sub, Int32.toBitVec_neg]
            bv_omega
          rw [e2, w.1, Int32.lt_iff_toInt_lt]
          unfold nI
          have : ∀ k : Nat, k ≤ 1440 → ¬ (0 : Int32).toInt < (-(Int32.ofNat k)).toInt := by decide +kernel
          exact this _ wb
        rw [if_neg h3, if_neg g]
        exact ST.fine hI
/-! expect -/
theorem adc {N : Nat} (hN : ix (u 0 0 2) = N) (h12 : u 0 0 2 < 12) : (∀ f, f ≠ 0 → f ≠ 3 → x_X1_add u p1 p2 p3 p4 f = u f) ∧ (∀ k, k ≠ 2 → x_X1_add u p1 p2 p3 p4 0 0 k = u 0 0 k) ∧ x_X1_add u p1 p2 p3 p4 0 0 2 = u 0 0 2 + 1 ∧ (∀ j, j ≠ N → x_X1_add u p1 p2 p3 p4 3 j = u 3 j) ∧
    (x_X1_add u p1 p2 p3 p4 3 N 0 = p1 / 10 ∧ x_X1_add u p1 p2 p3 p4 3 N 1 = p1 - p1 / 10 * 10 ∧ x_X1_add u p1 p2 p3 p4 3 N 2 = p2 ∧ x_X1_add u p1 p2 p3 p4 3 N 3 = p3 ∧ x_X1_add u p1 p2 p3 p4 3 N 4 = p4) ∧ x_X1_add u p1 p2 p3 p4 3 N 5 = 0 ∧ x_X1_add u p1 p2 p3 p4 3 N 6 = -1 ∧ x_X1_add u p1 p2 p3 p4 3 N 7 = -1 ∧ x_X1_add u p1 p2 p3 p4 3 N 8 = 0 ∧ x_X1_add u p1 p2 p3 p4 3 N 9 = 0 := by
  rw [x_X1_add_eq]
  unfold y_X1_add
  rw [if_pos h12, hN, x_X0_tell_eq]
  unfold y_X0_tell
  refine ⟨fun f h0 h3 => ?_, fun k hk => ?_, ?_, fun j hj => ?_, ⟨?_, ?_, ?_, ?_, ?_⟩, ?_, ?_, ?_, ?_, ?_⟩
  · rw [up3_fam h0, up3_fam h3, up3_fam h3, up3_fam h3, up3_fam h3, up3_fam h3, up3_fam h3, up3_fam h3, up3_fam h3, up3_fam h3, up3_fam h3]
  · rw [up3_ne (by omega)]
    simp [up3]
  · rw [up3_self]
    simp [up3]
  · funext k
    simp [up3, hj]
  all_goals simp [up3]
theorem adm {N : Nat} (hN : ix (μ 1 0 2) = N) (hb : N < 12) : (∀ f, f ≠ 1 → x_X7_adds μ v x p2 p3 p4 f = μ f) ∧ (∀ k, k ≠ 2 → ¬ (35 + 10 * N ≤ k ∧ k < 35 + 10 * N + 10) → x_X7_adds μ v x p2 p3 p4 1 0 k = μ 1 0 k) ∧ x_X7_adds μ v x p2 p3 p4 1 0 2 = μ 1 0 2 + 1 ∧
    (x_X7_adds μ v x p2 p3 p4 1 0 (35 + 10 * N + 0) = v ∧ x_X7_adds μ v x p2 p3 p4 1 0 (35 + 10 * N + 1) = x ∧ x_X7_adds μ v x p2 p3 p4 1 0 (35 + 10 * N + 2) = p2 ∧ x_X7_adds μ v x p2 p3 p4 1 0 (35 + 10 * N + 3) = p3 ∧ x_X7_adds μ v x p2 p3 p4 1 0 (35 + 10 * N + 4) = p4) ∧ x_X7_adds μ v x p2 p3 p4 1 0 (35 + 10 * N + 5) = 0 ∧ x_X7_adds μ v x p2 p3 p4 1 0 (35 + 10 * N + 6) = -1 ∧ x_X7_adds μ v x p2 p3 p4 1 0 (35 + 10 * N + 7) = -1 ∧ x_X7_adds μ v x p2 p3 p4 1 0 (35 + 10 * N + 8) = 0 ∧ x_X7_adds μ v x p2 p3 p4 1 0 (35 + 10 * N + 9) = 0 := by
  rw [x_X7_adds_eq]
  unfold y_X7_adds
  rw [hN]
  refine ⟨fun f h1 => ?_, fun k h2 hk => ?_, ?_, ⟨?_, ?_, ?_, ?_, ?_⟩, ?_, ?_, ?_, ?_, ?_⟩
  · rw [up3_fam h1, up3_fam h1, up3_fam h1, up3_fam h1, up3_fam h1, up3_fam h1, up3_fam h1, up3_fam h1, up3_fam h1, up3_fam h1, up3_fam h1]
  · rw [up3_k h2, up3_k (by omega), up3_k (by omega), up3_k (by omega), up3_k (by omega), up3_k (by omega), up3_k (by omega), up3_k (by omega), up3_k (by omega), up3_k (by omega), up3_k (by omega)]
  · rw [up3_self, up3_k (by omega), up3_k (by omega), up3_k (by omega), up3_k (by omega), up3_k (by omega), up3_k (by omega), up3_k (by omega), up3_k (by omega), up3_k (by omega), up3_k (by omega)]
  · rw [up3_k (by omega), up3_k (by omega), up3_k (by omega), up3_k (by omega), up3_k (by omega), up3_k (by omega), up3_k (by omega), up3_k (by omega), up3_k (by omega), up3_k (by omega), up3_self]
  · rw [up3_k (by omega), up3_k (by omega), up3_k (by omega), up3_k (by omega), up3_k (by omega), up3_k (by omega), up3_k (by omega), up3_k (by omega), up3_k (by omega), up3_self]
  · rw [up3_k (by omega), up3_k (by omega), up3_k (by omega), up3_k (by omega), up3_k (by omega), up3_k (by omega), up3_k (by omega), up3_k (by omega), up3_self]
  · rw [up3_k (by omega), up3_k (by omega), up3_k (by omega), up3_k (by omega), up3_k (by omega), up3_k (by omega), up3_k (by omega), up3_self]
  · rw [up3_k (by omega), up3_k (by omega), up3_k (by omega), up3_k (by omega), up3_k (by omega), up3_k (by omega), up3_self]
  · rw [up3_k (by omega), up3_k (by omega), up3_k (by omega), up3_k (by omega), up3_k (by omega), up3_self]
  · rw [up3_k (by omega), up3_k (by omega), up3_k (by omega), up3_k (by omega), up3_self]
  · rw [up3_k (by omega), up3_k (by omega), up3_k (by omega), up3_self]
  · rw [up3_k (by omega), up3_k (by omega), up3_self]
  · rw [up3_k (by omega), up3_self]
theorem FR.add (h : FR u (μ 1 0)) (hn : ix (u 0 0 2) < 12) (h12 : u 0 0 2 < 12) (v2 : VN 1999 p2) (v3 : VN 1999 p3) : FR (x_X1_add u p1 p2 p3 p4) (x_X7_adds μ (p1 / 10) (p1 - p1 / 10 * 10) p2 p3 p4 1 0) := by
  obtain ⟨hV, hI, hm, hU, hM⟩ := h
  have bs := hI.ns.2
  have bt := hI.nt.2
  have e2 : u 0 0 2 = μ 1 0 2 := hV.1 2 (by decide)
  obtain ⟨a1, a2, a3, a4, a5, a6⟩ := adc (u := u) (p1 := p1) (p2 := p2) (p3 := p3) (p4 := p4) rfl h12
  obtain ⟨c1, c2, c3, c4, c5⟩ := adm (μ := μ) (v := p1 / 10) (x := p1 - p1 / 10 * 10) (p2 := p2) (p3 := p3) (p4 := p4) (N := ix (u 0 0 2)) (by rw [e2]) hn
  generalize hN : ix (u 0 0 2) = N at *
  generalize x_X1_add u p1 p2 p3 p4 = w at *
  generalize x_X7_adds μ (p1 / 10) (p1 - p1 / 10 * 10) p2 p3 p4 1 0 = b at *
  have w0 := a2 0 (by decide)
  have w1 := a2 1 (by decide)
  have vs : VN 12 (u 0 0 2 + 1) ∧ ix (u 0 0 2 + 1) = N + 1 := by
    have := vn_s (B := N) (x := u 0 0 2) ⟨by rw [hN]; have := hI.na.1; rw [hN] at this; exact this, by omega⟩ (by omega)
    rw [hN] at this
    exact ⟨vn_le this.1 (by omega), this.2⟩
  have wn : ix (w 0 0 2) = N + 1 := by rw [a3]; exact vs.2
  have bn : ∀ m : Mem, (∀ j, j ≠ N → m 3 j = u 3 j) → ∀ K, K ≤ N → bsum m K = bsum u K := by
    intro m hm K
    induction K with
    | zero => exact fun _ => rfl
    | succ K ih =>
      intro hK
      show bsum m K + m 3 K 9 = bsum u K + u 3 K 9
      rw [ih (by omega), hm K (by omega)]
  refine ⟨⟨fun k hk => ?_, fun j hj => ?_, fun j k hj hk => ?_, fun j k hj hk => ?_, ⟨?_, fun i hi => ?_⟩, ?_⟩, ⟨?_, ⟨fun p hp => ?_, fun j p hj hp => ?_, fun j hj => ?_⟩, fun t ht => ?_, fun p hp => ?_⟩, ⟨by rw [a2 3 (by decide)]; exact hm.1, by rw [c2 1 (by decide) (by omega)]; exact hm.2.1, fun t ht l => ?_⟩, ⟨?_, fun j hj => ?_⟩, ?_⟩
  · by_cases e : k = 2
    · subst e
      rw [a3, c3, e2]
    · rw [a2 k e, c2 k e (by omega)]
      exact hV.1 k hk
  · rw [w0] at hj
    rw [a1 1 (by decide) (by decide), c2 _ (by omega) (by omega), c2 _ (by omega) (by omega)]
    exact hV.2.1 j hj
  · rw [w1] at hj
    rw [a1 2 (by decide) (by decide), c2 _ (by omega) (by omega)]
    exact hV.2.2.1 j k hj hk
  · rw [wn] at hj
    by_cases e : j = N
    · subst e
      match k, hk with
      | 0, _ => rw [a5.1, c4.1]
      | 1, _ => rw [a5.2.1, c4.2.1]
      | 2, _ => rw [a5.2.2.1, c4.2.2.1]
      | 3, _ => rw [a5.2.2.2.1, c4.2.2.2.1]
      | 4, _ => rw [a5.2.2.2.2, c4.2.2.2.2]
      | 5, _ => rw [a6.1, c5.1]
      | 6, _ => rw [a6.2.1, c5.2.1]
      | 7, _ => rw [a6.2.2.1, c5.2.2.1]
      | 8, _ => rw [a6.2.2.2.1, c5.2.2.2.1]
      | 9, _ => rw [a6.2.2.2.2, c5.2.2.2.2]
    · rw [a4 j e, c2 _ (by omega) (by omega)]
      exact hV.2.2.2.1 j k (by omega) hk
  · rw [a1 4 (by decide) (by decide), c2 7 (by decide) (by omega)]
    exact hV.l.1
  · rw [a1 4 (by decide) (by decide)] at hi ⊢
    rw [a1 5 (by decide) (by decide), a1 6 (by decide) (by decide), a1 7 (by decide) (by decide), c2 _ (by omega) (by omega), c2 _ (by omega) (by omega), c2 _ (by omega) (by omega)]
    exact hV.l.2 i hi
  · rw [wn, c2 6 (by decide) (by omega), ← hV.b, hN]
    show bsum w N + w 3 N 9 = _
    rw [bn w a4 N (Nat.le_refl _), a6.2.2.2.2, Int32.add_zero]
  · obtain ⟨i0, i1, i2, i3, i4, i5, i6⟩ := hI.1
    unfold IC
    rw [w0, w1, a3, a2 3 (by decide), a2 4 (by decide), a2 5 (by decide)]
    exact ⟨i0, i1, vs.1, i3, i4, i5, i6⟩
  · rw [wn] at hp
    dsimp only
    rw [w0]
    by_cases e : p = N
    · subst e
      rw [a6.1, a6.2.1]
      exact Or.inl ⟨Or.inl rfl, rfl⟩
    · rw [a4 p e]
      exact hI.2.1.1 p (by omega)
  · rw [wn] at hp
    rw [w0] at hj
    dsimp only
    rw [a1 1 (by decide) (by decide)]
    by_cases e : p = N
    · subst e
      rw [a6.1, a6.2.1]
      refine ⟨fun z => absurd rfl (hp_n z.1).1, fun z => ?_⟩
      rcases hI.2.1.2.2 j hj with q | ⟨p', hp', q⟩
      · exact absurd (z.symm.trans q) (nI_n1 (by omega))
      · dsimp only at q
        exact absurd (nI_inj (by omega) (by omega) (z.symm.trans q)) (by omega)
    · rw [a4 p e]
      exact hI.2.1.2.1 j p hj (by omega)
  · rw [w0] at hj
    rw [wn]
    dsimp only
    rw [a1 1 (by decide) (by decide)]
    rcases hI.2.1.2.2 j hj with q | ⟨p', hp', q⟩
    · exact Or.inl q
    · exact Or.inr ⟨p', by omega, q⟩
  · rw [w1] at ht
    rw [wn, a1 2 (by decide) (by decide)]
    obtain ⟨t1, t2, t3⟩ := hI.2.2.1 t ht
    refine ⟨t1.imp id (fun ⟨p, hp, q⟩ => ⟨p, by omega, q⟩), t2, t3⟩
  · rw [wn] at hp
    by_cases e : p = N
    · subst e
      rw [a5.2.2.1, a5.2.2.2.1, a6.2.2.1]
      exact ⟨v2, v3, Or.inl rfl⟩
    · rw [a4 p e]
      exact hI.2.2.2 p (by omega)
  · rw [c2 1 (by decide) (by omega)] at l
    rw [c2 _ (by omega) (by omega), c2 _ (by omega) (by omega)]
    exact hm.2.2 t ht l
  · rw [c2 3 (by decide) (by omega)]
    exact hU.1
  · rw [c2 3 (by decide) (by omega), c2 _ (by omega) (by omega)]
    exact hU.2 j hj
  · obtain ⟨m0, m1, m2, m3, m4⟩ := hM
    unfold MKa
    rw [c2 0 (by decide) (by omega), c2 1 (by decide) (by omega), c3, ← e2, c2 7 (by decide) (by omega), c2 21 (by decide) (by omega), c2 26 (by decide) (by omega), c2 31 (by decide) (by omega)]
    exact ⟨m0, m1, vs.1, m3, m4⟩
theorem vn_of_le {K : Nat} {c : Int32} (hc : c.toInt = K) (hK : K < 2 ^ 31) (n : ¬ x < 0) (h : ¬ c < x) : VN K x := by
  refine ⟨ix_eq n, ?_⟩
  rw [Int32.lt_iff_toInt_lt] at h n
  rw [hc] at h
  have z : (0 : Int32).toInt = 0 := by decide +kernel
  rw [z] at n
  unfold ix
  omega
theorem call_expect (h : INV B S μ) (hb : B ≤ B') (hB : B' + 200000 < 2147483648) : ST B' ct_L_expect S (x_X6_expect S p1 p2 p3 p4).2 (x_X6_expect S p1 p2 p3 p4).1 (x_X7_expect μ p1 p2 p3 p4) := by
  rw [x_X6_expect_eq, x_X7_expect_eq]
  unfold y_X6_expect y_X7_expect
  rw [x_X6_isKind_eq]
  unfold y_X6_isKind
  rw [in_lit (x := p1) (a := 11) (c := 43) (by decide) (by decide), in_lit (x := p1 - p1 / 10 * 10) (a := 1) (c := 3) (by decide) (by decide), in_lit (x := p2) (a := 0) (c := 1999) (by decide) (by decide), in_lit (x := p4) (a := 0) (c := 400) (by decide) (by decide)]
  have T1 : ∀ {S'}, ST B' ct_L_expect S (.inr "java/lang/IllegalArgumentException") S' ((x_X7_throwing μ 1).1, (x_X7_throwing μ 1).2) := fun {S'} => ST.throw h hb hB (by unfold ct_L_expect; simp) (by decide)
  by_cases g1 : x_X6_isOutside p1 11 43 = true
  · rw [if_pos g1, g1, if_neg (show ¬ (!true) = true by decide), if_neg (show ¬ false = true by decide)]
    exact T1
  · rw [if_neg g1, eq_false_of_ne_true g1, if_pos (show (!false) = true from rfl)]
    by_cases g2 : x_X6_isOutside (p1 - p1 / 10 * 10) 1 3 = true
    · rw [if_pos g2, g2, if_neg (show ¬ (!true) = true by decide), if_neg (show ¬ false = true by decide)]
      exact T1
    · rw [if_neg g2, eq_false_of_ne_true g2, if_pos (show (!false) = true from rfl), if_pos (show true = true from rfl)]
      by_cases g3 : x_X6_isOutside p2 0 1999 = true
      · rw [if_pos g3, g3, if_neg (show ¬ (!true) = true by decide)]
        exact T1
      · rw [if_neg g3, eq_false_of_ne_true g3, if_pos (show (!false) = true from rfl)]
        by_cases g4 : p2 < p3
        · rw [if_pos g4, if_pos g4]
          by_cases g5 : 1999 < p3
          · rw [if_pos g5, if_pos g5]
            exact T1
          · rw [if_neg g5, if_neg g5]
            by_cases g6 : x_X6_isOutside p4 0 400 = true
            · rw [if_pos g6, g6, if_neg (show ¬ (!true) = true by decide)]
              exact T1
            · rw [if_neg g6, eq_false_of_ne_true g6, if_pos (show (!false) = true from rfl)]
              have hna := h.2.2.1.2.1.na
              have e2 : S 1 0 0 2 = μ 1 0 2 := h.2.2.1.1.c (k := 2) (by decide)
              have q12 : S 1 0 0 2 < 12 ↔ ¬ S 1 0 0 2 = 12 := by
                have v12 : VN 12 (12 : Int32) := ⟨by decide +kernel, by decide +kernel⟩
                rw [vn_nlt hna v12 (by decide) (by decide), show ix (12 : Int32) = 12 by decide +kernel]
                constructor
                · intro z e
                  rw [e] at z
                  exact absurd z (by decide +kernel)
                · intro z
                  exact vn_12 hna z
              rw [← e2]
              by_cases g7 : S 1 0 0 2 = 12
              · rw [if_pos g7, if_neg (fun z => q12.mp z g7)]
                exact ST.throw h hb hB (by unfold ct_L_expect; simp) (by decide)
              · rw [if_neg g7, if_pos (q12.mpr g7)]
                have hs := save_rel h
                have e := save_1 h
                have hF := hs.2.2.1
                have v2 : VN 1999 p2 := out_VN (by decide) (by decide) (by decide) g3
                have n3 : ¬ p3 < 0 := fun z => (out_of g3).1 (by
                  rw [Int32.lt_iff_toInt_lt] at g4 z ⊢
                  omega)
                have v3 : VN 1999 p3 := vn_of_le (c := 1999) (by decide +kernel) (by decide) n3 g5
                have k2 : x_X6_save S 1 0 0 2 = S 1 0 0 2 := by rw [e.1]
                have hn : ix (x_X6_save S 1 0 0 2) < 12 := by rw [k2]; exact vn_12 hna g7
                have ev : x_X7_adds (x_X7_save μ) (p1 / 10) (p1 - p1 / 10 * 10) p2 p3 p4 1 0 2 - 1 = S 1 0 0 2 := by
                  have hN : ix (x_X7_save μ 1 0 2) = ix (x_X7_save μ 1 0 2) := rfl
                  have z := (adm (μ := x_X7_save μ) (v := p1 / 10) (x := p1 - p1 / 10 * 10) (p2 := p2) (p3 := p3) (p4 := p4) hN (by rw [e.2, ← e2]; exact vn_12 hna g7)).2.2.1
                  rw [z, e.2, ← e2, Int32.add_sub_cancel]
                rw [ev]
                have am := (adm (μ := x_X7_save μ) (v := p1 / 10) (x := p1 - p1 / 10 * 10) (p2 := p2) (p3 := p3) (p4 := p4) rfl (by rw [e.2, ← e2]; exact vn_12 hna g7)).1
                refine ST.fine ((hs.set1 (fk_add hs.1.f1) (by rw [(adc rfl (by rw [k2]; exact q12.mpr g7)).1 4 (by decide) (by decide)]; exact hs.1.w1.2.1) (hF.add hn (by rw [k2]; exact q12.mpr g7) v2 v3) (am 0 (by decide)) (am 2 (by decide)) (am 5 (by decide))).mono hb hB)
        · rw [if_neg g4, if_neg g4]
          exact T1
end SETS
