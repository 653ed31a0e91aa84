/-! class and model between two calls -/
def UMa (a : Nat → Int32) : Prop := VN 13000 (a 3) ∧ ∀ j, j < 6 → VN (ix (a 3)) (a (8 + 2 * j + 1))
def MKa (a : Nat → Int32) : Prop := VN 6 (a 0) ∧ VN 3 (a 1) ∧ VN 12 (a 2) ∧ VN 30 (a 7) ∧ VX 12 (a 21) ∧ VX 12 (a 26) ∧ VX 12 (a 31)
/-- a tug that is not there has done nothing -/
def ZT (a : Nat → Int32) : Prop := ¬ a 1 = 0 ∧ ∀ t, t < 3 → ix (a 1) ≤ t → a (20 + 5 * t + 3) = 0 ∧ a (20 + 5 * t + 4) = 0
/-- a field and its row -/
def FR (u : Mem) (a : Nat → Int32) : Prop := RV u a ∧ IN u ∧ (ix (u 0 0 3) ≤ 10000 ∧ ZT a) ∧ UMa a ∧ MKa a
def SR (S : Sys) (μ : Mem) : Prop :=
  FR (S 1) (μ 1 0) ∧ S 0 0 0 0 = μ 0 0 0 ∧ (∀ i j, i < 4 → j < 4 → S 0 1 0 i = S 0 1 0 j → i = j) ∧
  (∀ i, i < ix (S 0 0 0 0) → FR (S (3 + ix (S 0 1 0 i))) (fun k => μ 2 0 (245 * i + k))) ∧
  S 7 0 0 0 = μ 0 0 2 ∧ ∀ z, z < ix (S 7 0 0 0) → S 7 1 0 z = μ 5 0 z
def INV (B : Nat) (S : Sys) (μ : Mem) : Prop := SK B S ∧ B + 200000 < 2147483648 ∧ SR S μ
section INVS
variable {B k f : Nat} {S : Sys} {μ μ' u : Mem} {a a' : Nat → Int32} {v : Int32}
theorem FR.congr (h : FR u a) (e : ∀ k, k < 245 → a' k = a k) : FR u a' := by
  obtain ⟨hV, hI, hm, hU, hM⟩ := h
  have bs := hI.ns.2
  have bt := hI.nt.2
  have ba := hI.na.2
  refine ⟨⟨fun k hk => ?_, fun j hj => ?_, fun j k hj hk => ?_, fun j k hj hk => ?_, ⟨?_, fun i hi => ?_⟩, ?_⟩, hI, ⟨hm.1, by rw [e 1 (by decide)]; exact hm.2.1, fun t ht l => ?_⟩, ⟨?_, fun j hj => ?_⟩, ?_⟩
  · rw [e k (by omega)]; exact hV.1 k hk
  · rw [e _ (by omega), e _ (by omega)]; exact hV.2.1 j hj
  · rw [e _ (by omega)]; exact hV.2.2.1 j k hj hk
  · rw [e _ (by omega)]; exact hV.2.2.2.1 j k hj hk
  · rw [e _ (by decide)]; exact hV.l.1
  · rw [e _ (by omega), e _ (by omega), e _ (by omega)]; exact hV.l.2 i hi
  · rw [e _ (by decide)]; exact hV.b
  · rw [e _ (by decide)] at l
    rw [e _ (by omega), e _ (by omega)]
    exact hm.2.2 t ht l
  · rw [e _ (by decide)]; exact hU.1
  · rw [e _ (by decide), e _ (by omega)]; exact hU.2 j hj
  · unfold MKa
    rw [e 0 (by decide), e 1 (by decide), e 2 (by decide), e 7 (by decide), e 21 (by decide), e 26 (by decide), e 31 (by decide)]
    exact hM
theorem FR.rr (h : FR u (μ 1 0)) : RR u μ := ⟨h.1, h.2.1⟩
theorem FR.mk (h : FR u (μ 1 0)) : MK μ := h.2.2.2.2
theorem SR.o (h : SR S μ) (h1 : μ' 1 = μ 1) (h2 : μ' 2 = μ 2) (h5 : μ' 5 = μ 5) (h00 : μ' 0 0 0 = μ 0 0 0) (h02 : μ' 0 0 2 = μ 0 0 2) : SR S μ' := by
  unfold SR
  rw [h1, h2, h5, h00, h02]
  exact h
theorem INV.o1 (h : INV B S μ) : INV B S (up3 μ 0 0 1 v) := ⟨h.1, h.2.1, h.2.2.o (up3_fam (by decide)) (up3_fam (by decide)) (up3_fam (by decide)) (up3_ne (by decide)) (up3_ne (by decide))⟩
theorem INV.mono {B' : Nat} (h : INV B S μ) (hb : B ≤ B') (h2 : B' + 200000 < 2147483648) : INV B' S μ := ⟨h.1.mono hb, h2, h.2.2⟩
theorem INV.gd (h : INV B S μ) : GD B S μ := by
  obtain ⟨hK, hB, hS⟩ := h
  have hF := hS.1
  refine ⟨⟨hK, by omega⟩, ⟨hF.mk, ?_, ?_⟩, ⟨hF.2.1.mi, hF.2.1.1.2.2.2.2.2.2⟩, fun j hj => ?_, hF.2.2.2.1.1, ?_⟩
  · rw [← hS.2.1]; exact hK.1
  · rw [← hS.2.2.2.2.1]; exact hK.2.2.2
  · have := hF.2.2.2.1.2 j hj
    exact ⟨this.1, Nat.le_trans this.2 hF.2.2.2.1.1.2⟩
  · rw [← hF.1.c (k := 0) (by decide)]
    exact hF.2.1.1.2.2.2.2.2.2
theorem INV.rb (h : INV B S μ) : RB B (S 1) μ := ⟨h.2.2.1.rr, (h.1.2.2.1 1 (by decide) (by decide)).2⟩
/-! save -/
theorem msv_51 {N : Nat} (hn : N ≤ 245) (h4 : ix (μ 0 0 0) ≤ 3) : (∀ k, lf_X7_save_51 N μ 2 0 k = if 245 * ix (μ 0 0 0) ≤ k ∧ k < 245 * ix (μ 0 0 0) + N then μ 1 0 (k - 245 * ix (μ 0 0 0)) else μ 2 0 k) ∧ ∀ f, f ≠ 2 → lf_X7_save_51 N μ f = μ f := by
  rw [lf_X7_save_51_eq]
  unfold ly_X7_save_51
  refine itr_inv (n := N) (s := μ) (P := fun j (s : Mem) => (∀ k, s 2 0 k = if 245 * ix (μ 0 0 0) ≤ k ∧ k < 245 * ix (μ 0 0 0) + j then μ 1 0 (k - 245 * ix (μ 0 0 0)) else μ 2 0 k) ∧ ∀ f, f ≠ 2 → s f = μ f) (fun jz s => bd_X7_save_51 jz s) (fun j s hj g => ?_) ⟨fun k => by rw [if_neg (by omega)], fun _ _ => rfl⟩
  have e0 : s 0 = μ 0 := g.2 0 (by decide)
  have e1 : s 1 = μ 1 := g.2 1 (by decide)
  refine ⟨fun k => ?_, fun f hf => (up3_fam hf).trans (g.2 f hf)⟩
  show up3 s 2 0 (245 * ix (s 0 0 0) + j) (s 1 0 j) 2 0 k = _
  rw [e0, e1]
  by_cases h : k = 245 * ix (μ 0 0 0) + j
  · rw [h, up3_self, if_pos (by omega), Nat.add_sub_cancel_left]
  · rw [up3_ne (fun q => h q.2.2), g.1]
    by_cases l : 245 * ix (μ 0 0 0) ≤ k ∧ k < 245 * ix (μ 0 0 0) + j
    · rw [if_pos l, if_pos (by omega)]
    · rw [if_neg l, if_neg (by omega)]
theorem msv_10 : (∀ k, lf_X7_save_10 735 μ 2 0 k = if k < 735 then μ 2 0 (k + 245) else μ 2 0 k) ∧ ∀ f, f ≠ 2 → lf_X7_save_10 735 μ f = μ f := by
  rw [lf_X7_save_10_eq]
  unfold ly_X7_save_10
  refine itr_inv (n := 735) (s := μ) (P := fun j (s : Mem) => (∀ k, s 2 0 k = if k < j then μ 2 0 (k + 245) else μ 2 0 k) ∧ ∀ f, f ≠ 2 → s f = μ f) (fun jz s => bd_X7_save_10 jz s) (fun j s hj g => ?_) ⟨fun k => by rw [if_neg (by omega)], fun _ _ => rfl⟩
  refine ⟨fun k => ?_, fun f hf => (up3_fam hf).trans (g.2 f hf)⟩
  show up3 s 2 0 j (s 2 0 (j + 245)) 2 0 k = _
  by_cases h : k = j
  · rw [h, up3_self, if_pos (by omega), g.1, if_neg (by omega)]
  · rw [up3_ne (fun q => h q.2.2), g.1]
    by_cases l : k < j
    · rw [if_pos l, if_pos (by omega)]
    · rw [if_neg l, if_neg (by omega)]
theorem msv_f (h4 : VN 4 (μ 0 0 0)) : (∀ f, f ≠ 2 → f ≠ 0 → x_X7_save μ f = μ f) ∧ ∀ z, z ≠ 0 → x_X7_save μ 0 0 z = μ 0 0 z := by
  rw [x_X7_save_eq]
  unfold y_X7_save
  split
  · rename_i h
    have b : ix (up3 (lf_X7_save_10 735 μ) 0 0 0 ((lf_X7_save_10 735 μ) 0 0 0 - 1) 0 0 0) ≤ 3 := by
      rw [up3_self, msv_10.2 0 (by decide), h]
      decide
    refine ⟨fun f h2 h0 => ?_, fun z hz => ?_⟩
    · rw [up3_fam h0, (msv_51 (Nat.le_refl _) b).2 f h2, up3_fam h0, msv_10.2 f h2]
    · rw [up3_ne (by omega), (msv_51 (Nat.le_refl _) b).2 0 (by decide), up3_ne (by omega), msv_10.2 0 (by decide)]
  · rename_i h
    have b : ix (μ 0 0 0) ≤ 3 := (vn_43 h4 h).2
    refine ⟨fun f h2 h0 => ?_, fun z hz => ?_⟩
    · rw [up3_fam h0, (msv_51 (Nat.le_refl _) b).2 f h2]
    · rw [up3_ne (by omega), (msv_51 (Nat.le_refl _) b).2 0 (by decide)]
theorem FR.copy {m : Mem} (h : FR u a) : FR (x_X1_copyFrom m u) a := by
  obtain ⟨hV, hI, hm, hU, hM⟩ := h
  obtain ⟨c0, c1, c2, c3, c4, c5, -⟩ := copy_of (m := m) (mo := u)
  have e0 : x_X1_copyFrom m u 0 0 0 = u 0 0 0 := c0 0 (by decide)
  have e1 : x_X1_copyFrom m u 0 0 1 = u 0 0 1 := c0 1 (by decide)
  have e2 : x_X1_copyFrom m u 0 0 2 = u 0 0 2 := c0 2 (by decide)
  have e3 : x_X1_copyFrom m u 0 0 3 = u 0 0 3 := c0 3 (by decide)
  refine ⟨⟨fun k hk => ?_, fun j hj => ?_, fun j k hj hk => ?_, fun j k hj hk => ?_, ⟨?_, fun i hi => ?_⟩, ?_⟩, ⟨?_, ?_, fun t ht => ?_, fun p hp => ?_⟩, by rw [e3]; exact hm, hU, hM⟩
  · rw [c0 k hk]; exact hV.1 k hk
  · rw [e0] at hj; rw [c1 j 0 hj (by decide), c1 j 2 hj (by decide)]; exact hV.2.1 j hj
  · rw [e1] at hj; rw [c2 j k hj hk]; exact hV.2.2.1 j k hj hk
  · rw [e2] at hj; rw [c3 j k hj hk]; exact hV.2.2.2.1 j k hj hk
  · rw [c4]; exact hV.l.1
  · rw [c4] at hi ⊢
    rw [c5 5 _ (Or.inl rfl) (Nat.mod_lt _ (by decide)), c5 6 _ (Or.inr (Or.inl rfl)) (Nat.mod_lt _ (by decide)), c5 7 _ (Or.inr (Or.inr rfl)) (Nat.mod_lt _ (by decide))]
    exact hV.l.2 i hi
  · rw [e2, ← hV.b]
    have g : ∀ N, N ≤ ix (u 0 0 2) → bsum (x_X1_copyFrom m u) N = bsum u N := by
      intro N
      induction N with
      | zero => exact fun _ => rfl
      | succ N ih =>
        intro hN
        show bsum _ N + x_X1_copyFrom m u 3 N 9 = bsum u N + u 3 N 9
        rw [ih (by omega), c3 N 9 (by omega) (by decide)]
    exact g _ (Nat.le_refl _)
  · unfold IC
    rw [e0, e1, e2, e3, c0 4 (by decide), c0 5 (by decide)]
    exact hI.1
  · rw [e0, e2]
    refine ⟨fun p hp => ?_, fun j p hj hp => ?_, fun j hj => ?_⟩
    · dsimp only
      rw [c3 p 5 hp (by decide), c3 p 6 hp (by decide)]
      exact hI.2.1.1 p hp
    · dsimp only
      rw [c3 p 5 hp (by decide), c3 p 6 hp (by decide), c1 j 1 hj (by decide)]
      exact hI.2.1.2.1 j p hj hp
    · dsimp only
      rw [c1 j 1 hj (by decide)]
      exact hI.2.1.2.2 j hj
  · rw [e1] at ht
    rw [c2 t 1 ht (by decide), c2 t 2 ht (by decide), e2]
    exact hI.2.2.1 t ht
  · rw [e2] at hp
    rw [c3 p 2 hp (by decide), c3 p 3 hp (by decide), c3 p 7 hp (by decide)]
    exact hI.2.2.2 p hp
/-- one more saved, where there is room -/
theorem sv1_rel (h : SR S μ) (hK : SK B S) (h3 : VN 3 (S 0 0 0 0)) : SR (sv1 S) (up3 (lf_X7_save_51 245 μ) 0 0 0 (lf_X7_save_51 245 μ 0 0 0 + 1)) := by
  obtain ⟨hF, hc, hi, hr, ht, htx⟩ := h
  have b3 := h3.2
  have h3' : VN 3 (μ 0 0 0) := by rw [← hc]; exact h3
  have m5 := msv_51 (μ := μ) (N := 245) (Nat.le_refl _) h3'.2
  have p4 : ∀ i, i < 4 → ix (S 0 1 0 i) < 4 := fun i hi => vn_u4 (hK.2.1 i hi)
  have pinj : ∀ i j, i < 4 → j < 4 → ix (S 0 1 0 i) = ix (S 0 1 0 j) → i = j := fun i j a b e => hi i j a b (by rw [(hK.2.1 i a).1, (hK.2.1 j b).1, e])
  have pn := p4 (ix (S 0 0 0 0)) (by omega)
  have s0 : sv1 S 0 = up3 (S 0) 0 0 0 (S 0 0 0 0 + 1) := us_same _ _ _
  have sp : ∀ i, sv1 S 0 1 0 i = S 0 1 0 i := fun i => by rw [s0, up3_ne (by simp)]
  have su : ∀ w, w ≠ 0 → w ≠ 3 + ix (S 0 1 0 (ix (S 0 0 0 0))) → sv1 S w = S w := fun w h0 h1 => by
    unfold sv1
    rw [us_ne h0, us_ne h1]
  have sn : sv1 S (3 + ix (S 0 1 0 (ix (S 0 0 0 0)))) = x_X1_copyFrom (S (3 + ix (S 0 1 0 (ix (S 0 0 0 0))))) (S 1) := by
    unfold sv1
    rw [us_ne (by omega), us_same]
  have s1 := su 1 (by decide) (by omega)
  have s7 := su 7 (by decide) (by omega)
  have e4 := vn_s (B := 3) h3 (by decide)
  have cnt : sv1 S 0 0 0 0 = S 0 0 0 0 + 1 := by rw [s0, up3_self]
  refine ⟨?_, ?_, ?_, ?_, ?_, ?_⟩
  · rw [s1, up3_fam (by decide), m5.2 1 (by decide)]
    exact hF
  · rw [cnt, up3_self, m5.2 0 (by decide), hc]
  · intro i j a b
    rw [sp, sp]
    exact hi i j a b
  · intro i hil
    rw [cnt, e4.2] at hil
    rw [sp, up3_fam (f := 0) (f' := 2) (by decide)]
    by_cases e : i = ix (S 0 0 0 0)
    · subst e
      rw [sn]
      refine (hF.copy).congr (fun k hk => ?_)
      rw [m5.1, ← hc, if_pos (by omega), Nat.add_sub_cancel_left]
    · rw [su (3 + ix (S 0 1 0 i)) (by omega) (fun z => e (pinj i _ (by omega) (by omega) (by omega)))]
      refine (hr i (by omega)).congr (fun k hk => ?_)
      rw [m5.1, ← hc, if_neg (by omega)]
  · rw [s7, up3_ne (by decide), m5.2 0 (by decide)]
    exact ht
  · intro z hz
    rw [s7] at hz ⊢
    rw [up3_fam (by decide), m5.2 5 (by decide)]
    exact htx z hz
theorem save_rel (h : INV B S μ) : INV B (x_X6_save S) (x_X7_save μ) := by
  obtain ⟨hK, hB, hS⟩ := h
  refine ⟨sk_save hK, hB, ?_⟩
  rw [x_X6_save_eq, x_X7_save_eq]
  unfold y_X6_save y_X7_save
  rw [hS.2.1]
  by_cases g : μ 0 0 0 = 4
  · rw [if_pos g, if_pos g]
    have g' : S 0 0 0 0 = 4 := hS.2.1.trans g
    have q := sk_drop hK g'
    refine sv1_rel (μ := up3 (lf_X7_save_10 735 μ) 0 0 0 (lf_X7_save_10 735 μ 0 0 0 - 1)) ?_ q.1 (by rw [q.2]; exact ⟨by decide +kernel, by decide +kernel⟩)
    obtain ⟨hF, hc, hi, hr, ht, htx⟩ := hS
    have m1 := msv_10 (μ := μ)
    have su : ∀ w, w ≠ 0 → x_X6_dropOldest S w = S w := fun w hw => by
      rw [x_X6_dropOldest_eq]
      exact us_ne hw
    have pd : ∀ i, i < 4 → x_X6_dropOldest S 0 1 0 i = S 0 1 0 (if i = 3 then 0 else i + 1) := fun i hi => by
      rw [x_X6_dropOldest_eq]
      unfold y_X6_dropOldest
      rw [us_same, up3_ne (by simp)]
      match i, hi with
      | 0, _ => rfl
      | 1, _ => rfl
      | 2, _ => rfl
      | 3, _ => rfl
    refine ⟨?_, ?_, ?_, ?_, ?_, ?_⟩
    · rw [su 1 (by decide), up3_fam (by decide), m1.2 1 (by decide)]
      exact hF
    · rw [q.2, up3_self, m1.2 0 (by decide), g]
      decide
    · intro i j a b
      rw [pd i a, pd j b]
      intro e
      have := hi _ _ (by split <;> omega) (by split <;> omega) e
      split at this <;> split at this <;> omega
    · intro i hil
      rw [q.2, show ix (3 : Int32) = 3 by decide +kernel] at hil
      rw [pd i (by omega), if_neg (by omega), su _ (by omega), up3_fam (f := 0) (f' := 2) (by decide)]
      refine (hr (i + 1) (by rw [g', show ix (4 : Int32) = 4 by decide +kernel]; omega)).congr (fun k hk => ?_)
      rw [m1.1, if_pos (by omega)]
      congr 1
      omega
    · rw [su 7 (by decide), up3_ne (by decide), m1.2 0 (by decide)]
      exact ht
    · intro z hz
      rw [su 7 (by decide)] at hz ⊢
      rw [up3_fam (by decide), m1.2 5 (by decide)]
      exact htx z hz
  · rw [if_neg g, if_neg g]
    exact sv1_rel hS hK (by
      have := hK.1
      exact vn_43 this (fun z => g (hS.2.1 ▸ z)))
theorem save_1 (h : INV B S μ) : x_X6_save S 1 = S 1 ∧ x_X7_save μ 1 = μ 1 := by
  refine ⟨sv_u (Or.inl rfl) h.1.2.1 h.1.1, (msv_f ?_).1 1 (by decide) (by decide)⟩
  rw [← h.2.2.2.1]
  exact h.1.1
end INVS
