/-! parse: the two readers, number by number -/
def TR (T μ : Mem) : Prop := T 0 0 0 = μ 0 0 2 ∧ T 0 0 2 = μ 0 0 3 ∧ VN 90 (T 0 0 0) ∧ VN 90 (T 0 0 2) ∧ ∀ z, z < ix (T 0 0 0) → T 1 0 z = μ 5 0 z
def SM (T T0 μ μ0 : Mem) : Prop := (∀ f, f ≠ 0 → T f = T0 f) ∧ T 0 0 1 = T0 0 0 1 ∧ (∀ f, f ≠ 0 → μ f = μ0 f) ∧ μ 0 0 4 = μ0 0 0 4
def BAD (c : Mem × Int32) (b : Mem × Bool) : Prop := ¬ c.2 = -1 ∧ b.2 = false ∧ c.2 = b.1 0 0 3
section LTR
variable {T T0 μ μ0 : Mem} {g q r : Nat} {x y v p2 p3 c d : Int32}
theorem by_eq (h : TR T μ) : x_X4_byteHere T = x_X7_here μ := by
  rw [x_X4_byteHere_eq, x_X7_here_eq]
  unfold y_X4_byteHere y_X7_here
  rw [← h.1, ← h.2.1]
  by_cases g : T 0 0 2 < T 0 0 0
  · rw [if_pos g, if_pos g]
    rw [vn_nlt h.2.2.2.1 h.2.2.1 (by decide) (by decide)] at g
    exact h.2.2.2.2 _ g
  · rw [if_neg g, if_neg g]
theorem hr_lt (h : TR T μ) (g : ¬ x_X7_here μ = -1) : T 0 0 2 < T 0 0 0 := by
  rw [← by_eq h, x_X4_byteHere_eq] at g
  unfold y_X4_byteHere at g
  refine Classical.byContradiction fun z => g ?_
  rw [if_neg z]
theorem TR.ne (h : TR T μ) : ¬ T 0 0 2 = -1 := fun e => by
  have := vn_nn h.2.2.2.1 (by decide)
  rw [e] at this
  exact this (by decide)
theorem TR.step (h : TR T μ) (g : T 0 0 2 < T 0 0 0) : TR (up3 T 0 0 2 (T 0 0 2 + 1)) (up3 μ 0 0 3 (μ 0 0 3 + 1)) := by
  refine ⟨?_, ?_, ?_, ?_, ?_⟩
  · rw [up3_ne (by decide), up3_ne (by decide)]; exact h.1
  · rw [up3_self, up3_self, h.2.1]
  · rw [up3_ne (by decide)]; exact h.2.2.1
  · rw [up3_self]; exact vn_lt1 h.2.2.2.1 h.2.2.1 (by decide) g
  · rw [up3_ne (by decide), up3_fam (by decide), up3_fam (by decide)]; exact h.2.2.2.2
theorem TR.cls {f k : Nat} (h : TR T μ) (hf : 2 ≤ f) : TR (up3 T f 0 k v) μ := by
  refine ⟨?_, ?_, ?_, ?_, ?_⟩
  · rw [up3_ne (by omega)]; exact h.1
  · rw [up3_ne (by omega)]; exact h.2.1
  · rw [up3_ne (by omega)]; exact h.2.2.1
  · rw [up3_ne (by omega)]; exact h.2.2.2.1
  · rw [up3_ne (by omega), up3_fam (by omega)]; exact h.2.2.2.2
theorem TR.mod {k : Nat} (h : TR T μ) : TR T (up3 μ 6 0 k v) := by
  refine ⟨?_, ?_, h.2.2.1, h.2.2.2.1, ?_⟩
  · rw [up3_ne (by simp)]; exact h.1
  · rw [up3_ne (by simp)]; exact h.2.1
  · rw [up3_fam (by decide)]; exact h.2.2.2.2
theorem TR.c3 (h : TR T μ) : TR (up3 T 0 0 3 v) μ := by
  refine ⟨?_, ?_, ?_, ?_, ?_⟩
  · rw [up3_ne (by decide)]; exact h.1
  · rw [up3_ne (by decide)]; exact h.2.1
  · rw [up3_ne (by decide)]; exact h.2.2.1
  · rw [up3_ne (by decide)]; exact h.2.2.2.1
  · rw [up3_ne (by decide), up3_fam (by decide)]; exact h.2.2.2.2
theorem TR.m5 (h : TR T μ) : TR T (up3 μ 0 0 5 v) := by
  refine ⟨?_, ?_, h.2.2.1, h.2.2.2.1, ?_⟩
  · rw [up3_ne (by decide)]; exact h.1
  · rw [up3_ne (by decide)]; exact h.2.1
  · rw [up3_fam (by decide)]; exact h.2.2.2.2
/-- a digit -/
theorem dg_out (h : x_X6_isOutside x 48 57 = false) : ∃ k, x = nI k ∧ 48 ≤ k ∧ k ≤ 57 := by
  have h' : ¬ x_X6_isOutside x 48 57 = true := by rw [h]; decide
  have v : VN 57 x := out_VN (by decide) (by decide) (by decide) h'
  have o := (out_of h').1
  have w : VN 57 (48 : Int32) := ⟨by decide +kernel, by decide +kernel⟩
  rw [vn_nlt v w (by decide) (by decide), show ix (48 : Int32) = 48 by decide +kernel] at o
  exact ⟨ix x, v.1, by omega, v.2⟩
theorem dg_in : x_X7_in x.toInt64 48 57 = !x_X6_isOutside x 48 57 := in_lit (by decide) (by decide)
theorem dg_1 (hT : TR T μ) : x_X4_digitHere T = if x_X6_isOutside (x_X7_here μ) 48 57 = true then -1 else x_X7_here μ - 48 := by
  rw [x_X4_digitHere_eq]
  unfold y_X4_digitHere
  rw [by_eq hT]
theorem dg_n1 (hT : TR T μ) : x_X4_digitHere T = -1 ↔ ¬ x_X7_in (x_X7_here μ).toInt64 48 57 = true := by
  rw [dg_1 hT, dg_in]
  cases h : x_X6_isOutside (x_X7_here μ) 48 57 with
  | true =>
    rw [if_pos rfl]
    exact ⟨fun _ => by decide, fun _ => rfl⟩
  | false =>
    rw [if_neg (by decide)]
    obtain ⟨k, e, k1, k2⟩ := dg_out h
    rw [e]
    refine ⟨fun z => ?_, fun z => absurd rfl z⟩
    have : ∀ k, k ≤ 57 → 48 ≤ k → ¬ nI k - 48 = -1 := by decide +kernel
    exact absurd z (this k k2 k1)
theorem dg_ok (hc : c = 4 ∨ c = 3) (hT : TR T μ) : x_X6_isOutside (x_X4_digitHere T) 1 c = !x_X7_in (x_X7_here μ).toInt64 49 (48 + c).toInt64 := by
  rw [dg_1 hT, show (49 : Int64) = (49 : Int32).toInt64 by decide, in_out, Bool.not_not]
  generalize x_X7_here μ = x
  cases h : x_X6_isOutside x 48 57 with
  | true =>
    rw [if_pos rfl]
    rw [x_X6_isOutside_eq] at h ⊢
    unfold y_X6_isOutside at h ⊢
    rw [if_pos (show (-1 : Int32) < 1 by decide)]
    by_cases a : x < 49
    · rw [if_pos a]
    · have b : ¬ x < 48 := fun z => a (Int32.lt_of_lt_of_le z (by decide))
      rw [if_neg b] at h
      have b2 : 57 < x := Classical.byContradiction fun z => by
        rw [if_neg z] at h
        cases h
      rw [if_neg a, if_pos (Int32.lt_trans (by rcases hc with rfl | rfl <;> decide) b2)]
  | false =>
    rw [if_neg (by decide)]
    obtain ⟨k, rfl, k1, k2⟩ := dg_out h
    rw [x_X6_isOutside_eq]
    unfold y_X6_isOutside
    rcases hc with rfl | rfl
    · have : ∀ k, k ≤ 57 → 48 ≤ k → (if nI k - 48 < 1 then true else if (4 : Int32) < nI k - 48 then true else false) = (if nI k < 49 then true else if (48 + 4 : Int32) < nI k then true else false) := by decide +kernel
      exact this k k2 k1
    · have : ∀ k, k ≤ 57 → 48 ≤ k → (if nI k - 48 < 1 then true else if (3 : Int32) < nI k - 48 then true else false) = (if nI k < 49 then true else if (48 + 3 : Int32) < nI k then true else false) := by decide +kernel
      exact this k k2 k1
theorem dg_v (hT : TR T μ) (h : ¬ x_X4_digitHere T = -1) : ∃ a, x_X4_digitHere T = nI a ∧ x_X7_here μ - 48 = nI a ∧ a ≤ 9 ∧ T 0 0 2 < T 0 0 0 := by
  have l : T 0 0 2 < T 0 0 0 := by
    refine hr_lt hT (fun z => h ?_)
    rw [dg_1 hT, z]
    rw [if_pos (by rw [x_X6_isOutside_eq]; rfl)]
  rw [dg_1 hT] at h ⊢
  cases g : x_X6_isOutside (x_X7_here μ) 48 57 with
  | true =>
    rw [g, if_pos rfl] at h
    exact absurd rfl h
  | false =>
    rw [if_neg (by decide)]
    obtain ⟨k, e, k1, k2⟩ := dg_out g
    refine ⟨k - 48, ?_, ?_, by omega, l⟩ <;>
      rw [e, show (48 : Int32) = nI 48 from rfl, pk_sub k1]
/-- a sign -/
theorem sg_ok (hT : TR T μ) (hc : ¬ c = -1) : ((x_X4_readSign T c).2 = -1 ∧ (x_X7_passes μ c).2 = true ∧ (x_X4_readSign T c).1 = up3 T 0 0 2 (T 0 0 2 + 1) ∧ TR (x_X4_readSign T c).1 (x_X7_passes μ c).1 ∧ SM (x_X4_readSign T c).1 T (x_X7_passes μ c).1 μ) ∨ BAD (x_X4_readSign T c) (x_X7_passes μ c) := by
  rw [x_X4_readSign_eq, x_X7_passes_eq]
  unfold y_X4_readSign y_X7_passes
  rw [by_eq hT]
  by_cases g : x_X7_here μ = c
  · rw [if_pos g, if_pos g]
    have l := hr_lt hT (by rw [g]; exact hc)
    exact Or.inl ⟨rfl, rfl, rfl, hT.step l, fun f hf => up3_fam hf, (up3_ne (by decide) : up3 T 0 0 2 (T 0 0 2 + 1) 0 0 1 = T 0 0 1), fun f hf => up3_fam hf, (up3_ne (by decide) : up3 μ 0 0 3 (μ 0 0 3 + 1) 0 0 4 = μ 0 0 4)⟩
  · rw [if_neg g, if_neg g]
    refine Or.inr ⟨hT.ne, rfl, ?_⟩
    dsimp only
    rw [up3_self, Int32.add_zero]
    exact hT.2.1
/-- a number -/
theorem nlp_ok (hT : TR T μ) (hg : g = 3 ∨ g = 4) (h5 : T 0 0 3 = μ 0 0 5) (hb : T 0 0 2 = nI q) (hq : q ≤ 90) : TR (lf_X4_readNumber_14 g p2 p3 (T 0 0 2) g T) (lf_X7_readsNumber_11 g p2 p3 (T 0 0 2) 4 μ) ∧ SM (lf_X4_readNumber_14 g p2 p3 (T 0 0 2) g T) T (lf_X7_readsNumber_11 g p2 p3 (T 0 0 2) 4 μ) μ ∧ lf_X4_readNumber_14 g p2 p3 (T 0 0 2) g T 0 0 3 = lf_X7_readsNumber_11 g p2 p3 (T 0 0 2) 4 μ 0 0 5 := by
  have st : ∀ (j : Nat) (s t : Mem) (i : Nat), i < g → TR s t → s 0 0 2 = nI (q + i) → s 0 0 3 = t 0 0 5 → ¬ x_X4_digitHere s = -1 → TR (bd_X4_readNumber_14 g p2 p3 (nI q) j s) (bd_X7_readsNumber_11 g p2 p3 (nI q) j t) ∧ SM (bd_X4_readNumber_14 g p2 p3 (nI q) j s) s (bd_X7_readsNumber_11 g p2 p3 (nI q) j t) t ∧ bd_X4_readNumber_14 g p2 p3 (nI q) j s 0 0 3 = bd_X7_readsNumber_11 g p2 p3 (nI q) j t 0 0 5 ∧ bd_X4_readNumber_14 g p2 p3 (nI q) j s 0 0 2 = nI (q + (i + 1)) := by
    intro j s t i hi hR h2 h3 hd
    obtain ⟨a, ea, eb, ha, l⟩ := dg_v hR hd
    have nd : x_X7_in (x_X7_here t).toInt64 48 57 = true := Classical.byContradiction fun z => hd ((dg_n1 hR).mpr z)
    have t3 : t 0 0 3 = nI (q + i) := hR.2.1.symm.trans h2
    unfold bd_X4_readNumber_14 bd_X7_readsNumber_11
    rw [if_neg hd, if_pos nd, if_pos (by rw [t3, nI_add]; exact nI_lt (by omega) (by omega)), up3_ne (m := s) (by decide), up3_ne (m := t) (by decide)]
    refine ⟨?_, ⟨fun f hf => ?_, ?_, fun f hf => ?_, ?_⟩, ?_, ?_⟩
    · have := (hR.c3 (v := 10 * s 0 0 3 + x_X4_digitHere s)).m5 (v := 10 * t 0 0 5 + x_X7_here t - 48) |>.step (by rw [up3_ne (by decide), up3_ne (by decide)]; exact l)
      rw [up3_ne (m := s) (by decide), up3_ne (m := t) (by decide)] at this
      exact this
    · rw [up3_fam hf, up3_fam hf]
    · rw [up3_ne (by decide), up3_ne (by decide)]
    · rw [up3_fam hf, up3_fam hf]
    · rw [up3_ne (by decide), up3_ne (by decide)]
    · rw [up3_ne (by decide), up3_self, up3_ne (by decide), up3_self, h3, ea, Int32.sub_eq_add_neg, Int32.add_assoc, ← Int32.sub_eq_add_neg, eb]
    · rw [up3_self, h2, nI_1, Nat.add_assoc]
  have no : ∀ (j : Nat) (s t : Mem), TR s t → x_X4_digitHere s = -1 → bd_X4_readNumber_14 g p2 p3 (nI q) j s = s ∧ bd_X7_readsNumber_11 g p2 p3 (nI q) j t = t := by
    intro j s t hR hd
    unfold bd_X4_readNumber_14 bd_X7_readsNumber_11
    rw [if_pos hd, if_neg ((dg_n1 hR).mp hd)]
    exact ⟨rfl, rfl⟩
  rw [lf_X4_readNumber_14_eq, lf_X7_readsNumber_11_eq, hb]
  unfold ly_X4_readNumber_14 ly_X7_readsNumber_11
  have main := itr_rel (n := g) (s := T) (t := μ) (P := fun j (s t : Mem) => TR s t ∧ SM s T t μ ∧ s 0 0 3 = t 0 0 5 ∧ ∃ i, i ≤ j ∧ s 0 0 2 = nI (q + i) ∧ (i = j ∨ x_X4_digitHere s = -1)) (fun jz s => bd_X4_readNumber_14 g p2 p3 (nI q) jz s) (fun jz s => bd_X7_readsNumber_11 g p2 p3 (nI q) jz s) (fun j s t hj z => ?_) ⟨hT, ⟨fun _ _ => rfl, rfl, fun _ _ => rfl, rfl⟩, h5, 0, Nat.le_refl _, by rw [hb]; rfl, Or.inl rfl⟩
  · obtain ⟨m1, m2, m3, i, hi, m4, m5⟩ := main
    rcases hg with rfl | rfl
    · have k4 : itr (fun jz s => bd_X7_readsNumber_11 3 p2 p3 (nI q) jz s) 4 0 μ = bd_X7_readsNumber_11 3 p2 p3 (nI q) 3 (itr (fun jz s => bd_X7_readsNumber_11 3 p2 p3 (nI q) jz s) 3 0 μ) := itr_snoc _ 3 μ
      rw [k4]
      generalize itr (fun jz s => bd_X7_readsNumber_11 3 p2 p3 (nI q) jz s) 3 0 μ = t at *
      generalize itr (fun jz s => bd_X4_readNumber_14 3 p2 p3 (nI q) jz s) 3 0 T = s at *
      have nx : bd_X7_readsNumber_11 3 p2 p3 (nI q) 3 t = t := by
        rcases m5 with rfl | w
        · unfold bd_X7_readsNumber_11
          split
          · rw [if_neg]
            rw [← m1.2.1, m4, nI_add]
            exact nI_nlt (Nat.le_refl _) (by omega)
          · rfl
        · exact (no 3 _ _ m1 w).2
      rw [nx]
      exact ⟨m1, m2, m3⟩
    · exact ⟨m1, m2, m3⟩
  · obtain ⟨z1, z2, z3, i, hi, z4, z5⟩ := z
    by_cases hd : x_X4_digitHere s = -1
    · have n := no j s t z1 hd
      rw [n.1, n.2]
      exact ⟨z1, z2, z3, i, by omega, z4, Or.inr hd⟩
    · have e : i = j := z5.resolve_right hd
      subst e
      have w := st i s t i hj z1 z4 z3 hd
      refine ⟨w.1, ⟨fun f hf => (w.2.1.1 f hf).trans (z2.1 f hf), w.2.1.2.1.trans z2.2.1, fun f hf => (w.2.1.2.2.1 f hf).trans (z2.2.2.1 f hf), w.2.1.2.2.2.trans z2.2.2.2⟩, w.2.2.1, i + 1, Nat.le_refl _, w.2.2.2, Or.inl rfl⟩
theorem rn_ok (hT : TR T μ) (hg : g = 3 ∨ g = 4) : ((x_X4_readNumber T g p2 p3).2 = -1 ∧ (x_X7_readsNumber μ g p2 p3).2 = true ∧ TR (x_X4_readNumber T g p2 p3).1 (x_X7_readsNumber μ g p2 p3).1 ∧ SM (x_X4_readNumber T g p2 p3).1 T (x_X7_readsNumber μ g p2 p3).1 μ ∧ (x_X4_readNumber T g p2 p3).1 0 0 3 = (x_X7_readsNumber μ g p2 p3).1 0 0 5 ∧ ¬ x_X6_isOutside ((x_X4_readNumber T g p2 p3).1 0 0 3) p2 p3 = true) ∨ BAD (x_X4_readNumber T g p2 p3) (x_X7_readsNumber μ g p2 p3) := by
  have hb := hT.2.2.2.1
  have b := hb.2
  have n := nlp_ok (T := up3 T 0 0 3 0) (μ := up3 μ 0 0 5 0) (p2 := p2) (p3 := p3) (q := ix (T 0 0 2)) ((hT.c3).m5) hg (by rw [up3_self, up3_self]) (by rw [up3_ne (by decide)]; exact hb.1) b
  rw [up3_ne (m := T) (by decide)] at n
  rw [x_X4_readNumber_eq, x_X7_readsNumber_eq]
  unfold y_X4_readNumber y_X7_readsNumber
  rw [← hT.2.1]
  generalize lf_X4_readNumber_14 g p2 p3 (T 0 0 2) g (up3 T 0 0 3 0) = s at n ⊢
  generalize lf_X7_readsNumber_11 g p2 p3 (T 0 0 2) 4 (up3 μ 0 0 5 0) = t at n ⊢
  obtain ⟨n1, n2, n3⟩ := n
  rw [← n1.2.1]
  by_cases h1 : s 0 0 2 = T 0 0 2
  · rw [if_pos h1, if_pos h1]
    exact Or.inr ⟨n1.ne, rfl, n1.2.1⟩
  · rw [if_neg h1, if_neg h1]
    by_cases h2 : x_X4_digitHere s = -1
    · rw [if_pos h2, if_neg ((dg_n1 n1).mp h2), in_out, n3]
      by_cases h3 : x_X6_isOutside (t 0 0 5) p2 p3 = true
      · rw [if_pos h3, h3, if_neg (show ¬ (!true) = true by decide)]
        exact Or.inr ⟨hT.ne, rfl, (up3_self t 0 0 3 (T 0 0 2)).symm⟩
      · rw [if_neg h3, eq_false_of_ne_true h3, if_pos (show (!false) = true from rfl)]
        refine Or.inl ⟨rfl, rfl, n1, ⟨fun f hf => (n2.1 f hf).trans (up3_fam hf), n2.2.1.trans (up3_ne (by decide)), fun f hf => (n2.2.2.1 f hf).trans (up3_fam hf), n2.2.2.2.trans (up3_ne (by decide))⟩, n3, ?_⟩
        dsimp only
        rw [n3]
        exact h3
    · rw [if_neg h2, if_pos (Classical.byContradiction fun z => h2 ((dg_n1 n1).mpr z))]
      exact Or.inr ⟨n1.ne, rfl, n1.2.1⟩
end LTR
