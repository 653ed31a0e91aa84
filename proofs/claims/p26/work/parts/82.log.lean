/-! the log -/
section LGS
variable {m μ : Mem} {p1 p2 p3 : Int32} {f k : Nat}
theorem put_f (h : f < 4) : x_X2_put m p1 p2 p3 f = m f := by
  rw [x_X2_put_eq]
  unfold y_X2_put
  rw [up3_fam (by omega), up3_fam (by omega), up3_fam (by omega), up3_fam (by omega)]
theorem put_4 : x_X2_put m p1 p2 p3 4 0 0 = m 4 0 0 + 1 := by
  rw [x_X2_put_eq]
  unfold y_X2_put
  rw [up3_self, up3_ne (by simp), up3_ne (by simp), up3_ne (by simp)]
theorem put_5 : x_X2_put m p1 p2 p3 5 0 k = if k = ix (m 4 0 0) % 30 then p1 else m 5 0 k := by
  rw [x_X2_put_eq]
  unfold y_X2_put
  rw [up3_ne (by simp), up3_ne (by simp), up3_ne (by simp)]
  by_cases e : k = ix (m 4 0 0) % 30
  · subst e
    rw [up3_self, if_pos rfl]
  · rw [up3_ne (fun q => e q.2.2), if_neg e]
theorem put_6 : x_X2_put m p1 p2 p3 6 0 k = if k = ix (m 4 0 0) % 30 then p2 else m 6 0 k := by
  rw [x_X2_put_eq]
  unfold y_X2_put
  rw [up3_ne (by simp), up3_ne (by simp)]
  by_cases e : k = ix (m 4 0 0) % 30
  · subst e
    rw [up3_self, if_pos rfl]
  · rw [up3_ne (fun q => e q.2.2), if_neg e, up3_ne (by simp)]
theorem put_7 : x_X2_put m p1 p2 p3 7 0 k = if k = ix (m 4 0 0) % 30 then p3 else m 7 0 k := by
  rw [x_X2_put_eq]
  unfold y_X2_put
  rw [up3_ne (by simp)]
  by_cases e : k = ix (m 4 0 0) % 30
  · subst e
    rw [up3_self, if_pos rfl]
  · rw [up3_ne (fun q => e q.2.2), if_neg e, up3_ne (by simp), up3_ne (by simp)]
theorem wl_at : ∀ k, lf_X7_writes_3 p1 p2 87 μ 1 0 k = if 158 ≤ k ∧ k < 245 then μ 1 0 (k - 3) else μ 1 0 k := by
  rw [lf_X7_writes_3_eq]
  unfold ly_X7_writes_3
  have q := itr_inv (n := 87) (s := μ) (P := fun j (s : Mem) => ∀ k, s 1 0 k = if 245 - j ≤ k ∧ k < 245 then μ 1 0 (k - 3) else μ 1 0 k) (fun jz s => bd_X7_writes_3 p1 p2 jz s) (fun j s hj g => ?_) (fun k => by rw [if_neg (by omega)])
  · exact q
  · intro k
    show up3 s 1 0 (155 + (89 - j)) (s 1 0 ((155 + (89 - j)) - 3)) 1 0 k = _
    rw [up1]
    by_cases e : k = 155 + (89 - j)
    · rw [if_pos e, if_pos (by omega), g, if_neg (by omega), e]
    · rw [if_neg e, g]
      by_cases e2 : 245 - j ≤ k ∧ k < 245
      · rw [if_pos e2, if_pos (by omega)]
      · rw [if_neg e2, if_neg (by omega)]
theorem wr_at : x_X7_writes μ p1 p2 1 0 k = if k = 7 then (if μ 1 0 7 < 30 then μ 1 0 7 + 1 else μ 1 0 7) else if k = 155 then p1 else if k = 156 then μ 1 0 3 else if k = 157 then p2 else if 158 ≤ k ∧ k < 245 then μ 1 0 (k - 3) else μ 1 0 k := by
  have e7 : (up3 (up3 (up3 (lf_X7_writes_3 p1 p2 87 μ) 1 0 155 p1) 1 0 156 ((up3 (lf_X7_writes_3 p1 p2 87 μ) 1 0 155 p1) 1 0 3)) 1 0 157 p2) 1 0 7 = μ 1 0 7 := by
    rw [up1, if_neg (by decide), up1, if_neg (by decide), up1, if_neg (by decide), wl_at, if_neg (by decide)]
  have e3 : (up3 (lf_X7_writes_3 p1 p2 87 μ) 1 0 155 p1) 1 0 3 = μ 1 0 3 := by
    rw [up1, if_neg (by decide), wl_at, if_neg (by decide)]
  have ek : ¬ k = 7 → (up3 (up3 (up3 (lf_X7_writes_3 p1 p2 87 μ) 1 0 155 p1) 1 0 156 (μ 1 0 3)) 1 0 157 p2) 1 0 k = if k = 155 then p1 else if k = 156 then μ 1 0 3 else if k = 157 then p2 else if 158 ≤ k ∧ k < 245 then μ 1 0 (k - 3) else μ 1 0 k := by
    intro _
    rw [up1, up1, up1, wl_at]
    by_cases h1 : k = 157
    · rw [if_pos h1, if_neg (by omega), if_neg (by omega), if_pos h1]
    · rw [if_neg h1]
      by_cases h2 : k = 156
      · rw [if_pos h2, if_neg (by omega), if_pos h2]
      · rw [if_neg h2]
        by_cases h3 : k = 155
        · rw [if_pos h3, if_pos h3]
        · rw [if_neg h3, if_neg h3, if_neg h2, if_neg h1]
  rw [x_X7_writes_eq]
  unfold y_X7_writes
  rw [e7, e3]
  by_cases h7 : k = 7
  · subst h7
    rw [if_pos rfl]
    by_cases g : μ 1 0 7 < 30
    · rw [if_pos g, if_pos g, up3_self]
    · rw [if_neg g, if_neg g, up3_self]
      simp
  · rw [if_neg h7]
    split
    · rw [up1, if_neg h7]
      exact ek h7
    · rw [up1, if_neg h7]
      exact ek h7
theorem vn_s {B : Nat} {x : Int32} (h : VN B x) (hB : B + 1 < 2 ^ 31) : VN (B + 1) (x + 1) ∧ ix (x + 1) = ix x + 1 := by
  have b := h.2
  have e : x + 1 = nI (ix x + 1) := by rw [← nI_1, ← h.1]
  have e2 : ix (x + 1) = ix x + 1 := by rw [e, ix_nI (by omega)]
  exact ⟨⟨by rw [e2]; exact e, by rw [e2]; omega⟩, e2⟩
/-- an event on both sides -/
theorem RV.put {B : Nat} (h : RV m (μ 1 0)) (hn : ix (m 0 0 0) ≤ 6) (ht : ix (m 0 0 1) ≤ 3) (hN : ix (m 0 0 2) ≤ 12) (hv : VN B (m 4 0 0)) (hB : B + 1 < 2 ^ 31) (h2 : p2 = m 0 0 3) : RV (x_X2_put m p1 p2 p3) (x_X7_writes μ p1 p3 1 0) := by
  have e0 : x_X2_put m p1 p2 p3 0 = m 0 := put_f (by decide)
  have e1 : x_X2_put m p1 p2 p3 1 = m 1 := put_f (by decide)
  have e2 : x_X2_put m p1 p2 p3 2 = m 2 := put_f (by decide)
  have e3 : x_X2_put m p1 p2 p3 3 = m 3 := put_f (by decide)
  have lo : ∀ z, z < 155 → ¬ z = 7 → x_X7_writes μ p1 p3 1 0 z = μ 1 0 z := fun z hz h7 => by
    rw [wr_at, if_neg h7, if_neg (by omega), if_neg (by omega), if_neg (by omega), if_neg (by omega)]
  have hT := vn_s hv hB
  have b := hv.2
  refine ⟨fun z hz => ?_, fun z hz => ?_, fun y z hy hz => ?_, fun y z hy hz => ?_, ⟨?_, fun i hi => ?_⟩, ?_⟩
  · rw [e0, lo z (by omega) (by omega)]
    exact h.1 z hz
  · rw [e0] at hz
    rw [e1, lo _ (by omega) (by omega), lo _ (by omega) (by omega)]
    exact h.2.1 z hz
  · rw [e0] at hy
    rw [e2, lo _ (by omega) (by omega)]
    exact h.2.2.1 y z hy hz
  · rw [e0] at hy
    rw [e3, lo _ (by omega) (by omega)]
    exact h.2.2.2.1 y z hy hz
  · rw [wr_at, if_pos rfl, put_4, hT.2]
    have a7 := h.l.1
    have e30 : nI (min (ix (m 4 0 0)) 30) < 30 ↔ min (ix (m 4 0 0)) 30 < 30 := nI_ltI (a := min (ix (m 4 0 0)) 30) (b := 30) (by omega) (by decide)
    rw [a7]
    by_cases g : min (ix (m 4 0 0)) 30 < 30
    · rw [if_pos (e30.mpr g), nI_1]
      congr 1
      omega
    · rw [if_neg (fun q => g (e30.mp q))]
      congr 1
      omega
  · rw [put_4, hT.2] at hi
    rw [put_4, hT.2, put_5, put_6, put_7]
    rcases Nat.eq_zero_or_pos i with z | z
    · subst z
      rw [if_pos (by rw [Nat.add_sub_cancel, Nat.sub_zero]), if_pos (by rw [Nat.add_sub_cancel, Nat.sub_zero]), if_pos (by rw [Nat.add_sub_cancel, Nat.sub_zero]), wr_at, wr_at, wr_at]
      refine ⟨rfl, ?_, rfl⟩
      rw [h2]
      exact h.1 3 (by decide)
    · have q := h.l.2 (i - 1) (by omega)
      have ei : (ix (m 4 0 0) + 1 - 1 - i) % 30 = (ix (m 4 0 0) - 1 - (i - 1)) % 30 := by
        congr 1
        omega
      have en : ¬ (ix (m 4 0 0) + 1 - 1 - i) % 30 = ix (m 4 0 0) % 30 := by omega
      rw [if_neg en, if_neg en, if_neg en, ei, wr_at, wr_at, wr_at]
      rw [if_neg (by omega), if_neg (by omega), if_neg (by omega), if_neg (by omega), if_pos (by omega), if_neg (by omega), if_neg (by omega), if_neg (by omega), if_neg (by omega), if_pos (by omega), if_neg (by omega), if_neg (by omega), if_neg (by omega), if_neg (by omega), if_pos (by omega)]
      rw [show 155 + 3 * i - 3 = 155 + 3 * (i - 1) by omega, show 155 + 3 * i + 1 - 3 = 155 + 3 * (i - 1) + 1 by omega, show 155 + 3 * i + 2 - 3 = 155 + 3 * (i - 1) + 2 by omega]
      exact q
  · rw [e0, wr_at, if_neg (by decide), if_neg (by decide), if_neg (by decide), if_neg (by decide), if_neg (by decide), ← h.b]
    have g : ∀ N, bsum (x_X2_put m p1 p2 p3) N = bsum m N := by
      intro N
      induction N with
      | zero => rfl
      | succ N ih =>
        show bsum _ N + x_X2_put m p1 p2 p3 3 N 9 = bsum m N + m 3 N 9
        rw [ih, e3]
    exact g _
end LGS
/-! who is where, changed at one aircraft -/
theorem hp_n {x : Int32} (h : HP x) : ¬ x = 0 ∧ ¬ x = 2 ∧ ¬ x = 5 := by
  rcases h with h | h | h <;> subst h <;> decide
theorem HJ.move {ns na : Nat} {P s σ P' s' σ' : Nat → Int32} (h : HJ ns na P s σ) (hna : na ≤ 12) {p : Nat} (hp : p < na) (hP : ∀ q, q ≠ p → P' q = P q) (hs : ∀ q, q ≠ p → s' q = s q) (hpl : PL ns (P' p) (s' p))
    (h1 : ∀ j, j < ns → HP (P' p) ∧ s' p = nI j → σ' j = nI p ∧ (σ j = -1 ∨ σ j = nI p)) (h2 : ∀ j, j < ns → ¬ (HP (P' p) ∧ s' p = nI j) → (σ j = nI p → σ' j = -1) ∧ (¬ σ j = nI p → σ' j = σ j)) : HJ ns na P' s' σ' := by
  have ne : ∀ q, q < na → q ≠ p → ¬ nI q = nI p := fun q hq e z => e (nI_inj (by omega) (by omega) z)
  refine ⟨fun q hq => ?_, fun j q hj hq => ?_, fun j hj => ?_⟩
  · by_cases e : q = p
    · subst e
      exact hpl
    · rw [hP q e, hs q e]
      exact h.1 q hq
  · by_cases g : HP (P' p) ∧ s' p = nI j
    · obtain ⟨a, b⟩ := h1 j hj g
      by_cases e : q = p
      · subst e
        exact ⟨fun _ => a, fun _ => g⟩
      · rw [hP q e, hs q e, a]
        refine ⟨fun z => ?_, fun z => absurd z.symm (ne q hq e)⟩
        have z2 := (h.2.1 j q hj hq).mp z
        rcases b with b | b
        · rw [b] at z2
          exact absurd z2.symm (nI_n1 (by omega))
        · rw [b] at z2
          exact absurd z2.symm (ne q hq e)
    · obtain ⟨a, b⟩ := h2 j hj g
      by_cases e : q = p
      · subst e
        refine ⟨fun z => absurd z g, fun z => ?_⟩
        by_cases k : σ j = nI q
        · rw [a k] at z
          exact absurd z.symm (nI_n1 (by omega))
        · rw [b k] at z
          exact absurd z k
      · rw [hP q e, hs q e, h.2.1 j q hj hq]
        by_cases k : σ j = nI p
        · rw [a k, k]
          exact ⟨fun z => absurd z.symm (ne q hq e), fun z => absurd z.symm (nI_n1 (by omega))⟩
        · rw [b k]
  · by_cases g : HP (P' p) ∧ s' p = nI j
    · exact Or.inr ⟨p, hp, (h1 j hj g).1⟩
    · by_cases k : σ j = nI p
      · exact Or.inl ((h2 j hj g).1 k)
      · rw [(h2 j hj g).2 k]
        exact h.2.2 j hj
theorem IN.mk' {m m' : Mem} (h : IN m) (h0 : m' 0 0 = m 0 0) (hJ : HJ (ix (m 0 0 0)) (ix (m 0 0 2)) (fun p => m' 3 p 5) (fun p => m' 3 p 6) (fun j => m' 1 j 1)) (hT : IT (ix (m 0 0 1)) (ix (m 0 0 2)) m') (hQ : IQ (ix (m 0 0 2)) m') : IN m' := by
  unfold IN IC
  rw [h0]
  exact ⟨h.1, hJ, hT, hQ⟩
theorem IN.put {m : Mem} {p1 p2 p3 : Int32} (h : IN m) : IN (x_X2_put m p1 p2 p3) := by
  have e0 : x_X2_put m p1 p2 p3 0 = m 0 := put_f (by decide)
  have e1 : x_X2_put m p1 p2 p3 1 = m 1 := put_f (by decide)
  have e2 : x_X2_put m p1 p2 p3 2 = m 2 := put_f (by decide)
  have e3 : x_X2_put m p1 p2 p3 3 = m 3 := put_f (by decide)
  unfold IN IC IT IQ
  rw [e0, e1, e2, e3]
  exact h
theorem IT.set {nt na t : Nat} {m m' : Mem} (h : IT nt na m) (ho : ∀ q, q ≠ t → m' 2 q = m 2 q) (ht : t < nt → (m' 2 t 1 = -1 ∨ ∃ p, p < na ∧ m' 2 t 1 = nI p) ∧ VN 10 (m' 2 t 2) ∧ (¬ m' 2 t 1 = -1 → ¬ m' 2 t 2 = 0)) : IT nt na m' := fun q hq => by
  by_cases e : q = t
  · subst e
    exact ht hq
  · rw [ho q e]
    exact h q hq
