/-! how many minutes pass at once, and that they are so many minutes -/
def LE2 (x y : Int32) : Prop := ix x ≤ ix y
noncomputable def MK1 (k : Nat) (m : Mem) : Mem := itr (fun _ s => M1 s) k 0 m
noncomputable def MN (k : Nat) (μ : Mem) : Mem := itr (fun _ s => x_X7_minute s) k 0 μ
section SOM
variable {m μ x y : Mem} {B j p q k N P t : Nat} {w a b c : Int32}
theorem mk1_s : MK1 (k + 1) m = M1 (MK1 k m) := itr_snoc _ _ _
theorem mn_s : MN (k + 1) μ = x_X7_minute (MN k μ) := itr_snoc _ _ _
theorem mk1_add : MK1 (k + j) m = MK1 j (MK1 k m) := by
  unfold MK1
  rw [itr_add]
  have e : ∀ (n i i' : Nat) (s : Mem), itr (fun _ s => M1 s) n i s = itr (fun _ s => M1 s) n i' s := by
    intro n
    induction n with
    | zero => exact fun _ _ _ => rfl
    | succ n ih => exact fun i i' s => ih _ _ _
  exact e _ _ _ _
theorem mk_ok (h : RB B m μ) : ∀ k, B + 39 * k < 2 ^ 31 → ix (m 0 0 3) + k ≤ 13000 → RB (B + 39 * k) (MK1 k m) (MN k μ) ∧ (∀ z, z ≠ 3 → MK1 k m 0 0 z = m 0 0 z) ∧ ix (MK1 k m 0 0 3) = ix (m 0 0 3) + k
  | 0, _, _ => ⟨h, fun _ _ => rfl, rfl⟩
  | k + 1, hB, ht => by
    have q := mk_ok h k (by omega) (by omega)
    have w := m1_ok q.1 (by omega) (by omega)
    rw [mk1_s, mn_s]
    refine ⟨⟨w.1.1, w.1.2.1, Nat.le_trans w.1.2.2 (by omega)⟩, fun z hz => (w.2.1 z hz).trans (q.2.1 z hz), ?_⟩
    rw [w.2.2]
    have v := q.1.1.2.mi
    have e : MK1 k m 0 0 3 + 1 = nI (ix (MK1 k m 0 0 3) + 1) := by rw [← nI_1, ← v.1]
    rw [e, ix_nI (by omega)]
    omega
theorem vn_nlt {K L : Nat} (hx : VN K w) (hy : VN L c) (hK : K < 2 ^ 31) (hL : L < 2 ^ 31) : w < c ↔ ix w < ix c := by
  have b1 := hx.2
  have b2 := hy.2
  conv => lhs; rw [hx.1, hy.1]
  exact nI_ltI (by omega) (by omega)
theorem vn_le {K L : Nat} (h : VN K w) (hl : K ≤ L) : VN L w := ⟨h.1, Nat.le_trans h.2 hl⟩
theorem vn_add {K L : Nat} (hx : VN K w) (hy : VN L c) (hK : K + L < 2 ^ 31) : VN (K + L) (w + c) ∧ ix (w + c) = ix w + ix c := by
  have b1 := hx.2
  have b2 := hy.2
  have e : w + c = nI (ix w + ix c) := by
    conv => lhs; rw [hx.1, hy.1]
    exact nI_add _ _
  have e2 : ix (w + c) = ix w + ix c := by rw [e, ix_nI (by omega)]
  exact ⟨⟨by rw [e2]; exact e, by rw [e2]; omega⟩, e2⟩
/-- the least of two small numbers -/
theorem mn2 (hx : VN 20000 w) (hy : VN 20000 c) : VN 20000 (if w < c then w else c) ∧ ix (if w < c then w else c) ≤ ix w ∧ ix (if w < c then w else c) ≤ ix c := by
  have e := vn_nlt hx hy (by decide) (by decide)
  by_cases g : w < c
  · rw [if_pos g]
    exact ⟨hx, Nat.le_refl _, Nat.le_of_lt (e.mp g)⟩
  · rw [if_neg g]
    exact ⟨hy, Nat.le_of_not_lt (fun z => g (e.mpr z)), Nat.le_refl _⟩
theorem rem_n (h : VN 13000 w) : w - w / 1440 * 1440 = nI (ix w % 1440) := by
  have q := pk_rem (a := ix w) (d := 1440) (by have := h.2; omega) (by decide) (by decide)
  rw [← h.1] at q
  exact q
/-- what quietMinutes looks at -/
theorem qm_ok (hI : IN x) : ∃ n, x_X1_quietMinutes x = nI n - x 0 0 3 - 1 ∧ n ≤ 20000 ∧ (∀ t, t < ix (x 0 0 1) → ¬ x 2 t 1 = -1 → n ≤ ix (x 0 0 3) + ix (x 2 t 2)) ∧ (∀ p, p < ix (x 0 0 2) → x 3 p 5 = 0 → n ≤ ix (x 3 p 2)) ∧ (∀ p, p < ix (x 0 0 2) → (x 3 p 5 = 1 ∨ x 3 p 5 = 2) → x 0 0 3 < x 3 p 3 → n ≤ ix (x 3 p 3)) ∧ (x_X1_isCurfew x = true → n ≤ ix (x 0 0 3) - ix (x 0 0 3) % 1440 + ix (x 0 0 5)) := by
  have hm := hI.mi
  have bm := hm.2
  have a3 := vn_add (c := 3000) (L := 3000) hm ⟨by decide +kernel, by decide +kernel⟩ (by decide)
  have v3 : VN 20000 (x 0 0 3 + 3000) := vn_le a3.1 (by decide)
  have q11 : VN 20000 (lf_X1_quietMinutes_11 x (ix (x 0 0 1)) (x 0 0 3 + 3000)) ∧ ∀ t, t < ix (x 0 0 1) → ¬ x 2 t 1 = -1 → ix (lf_X1_quietMinutes_11 x (ix (x 0 0 1)) (x 0 0 3 + 3000)) ≤ ix (x 0 0 3) + ix (x 2 t 2) := by
    rw [lf_X1_quietMinutes_11_eq]
    unfold ly_X1_quietMinutes_11
    refine itr_inv (n := ix (x 0 0 1)) (s := x 0 0 3 + 3000) (P := fun j (c : Int32) => VN 20000 c ∧ ∀ t, t < j → ¬ x 2 t 1 = -1 → ix c ≤ ix (x 0 0 3) + ix (x 2 t 2)) (fun jz s => bd_X1_quietMinutes_11 x jz s) (fun j c hj g => ?_) ⟨v3, fun t ht => absurd ht (Nat.not_lt_zero t)⟩
    show VN 20000 (bd_X1_quietMinutes_11 x j c) ∧ ∀ t, t < j + 1 → ¬ x 2 t 1 = -1 → ix (bd_X1_quietMinutes_11 x j c) ≤ ix (x 0 0 3) + ix (x 2 t 2)
    unfold bd_X1_quietMinutes_11
    by_cases h1 : x 2 j 1 = -1
    · rw [if_pos h1]
      refine ⟨g.1, fun t ht ht1 => ?_⟩
      rcases Nat.lt_or_ge t j with l | l
      · exact g.2 t l ht1
      · have : t = j := by omega
        subst this
        exact absurd h1 ht1
    · rw [if_neg h1]
      have al := vn_add hm (hI.2.2.1 j hj).2.1 (by decide)
      have z := mn2 (vn_le al.1 (by decide)) g.1
      refine ⟨z.1, fun t ht ht1 => ?_⟩
      rcases Nat.lt_or_ge t j with l | l
      · exact Nat.le_trans z.2.2 (g.2 t l ht1)
      · have : t = j := by omega
        subst this
        have := z.2.1
        rw [al.2] at this
        exact this
  have q59 : VN 20000 (lf_X1_quietMinutes_59 x (ix (x 0 0 2)) (lf_X1_quietMinutes_11 x (ix (x 0 0 1)) (x 0 0 3 + 3000))) ∧ ix (lf_X1_quietMinutes_59 x (ix (x 0 0 2)) (lf_X1_quietMinutes_11 x (ix (x 0 0 1)) (x 0 0 3 + 3000))) ≤ ix (lf_X1_quietMinutes_11 x (ix (x 0 0 1)) (x 0 0 3 + 3000)) ∧ (∀ p, p < ix (x 0 0 2) → x 3 p 5 = 0 → ix (lf_X1_quietMinutes_59 x (ix (x 0 0 2)) (lf_X1_quietMinutes_11 x (ix (x 0 0 1)) (x 0 0 3 + 3000))) ≤ ix (x 3 p 2)) ∧ (∀ p, p < ix (x 0 0 2) → (x 3 p 5 = 1 ∨ x 3 p 5 = 2) → x 0 0 3 < x 3 p 3 → ix (lf_X1_quietMinutes_59 x (ix (x 0 0 2)) (lf_X1_quietMinutes_11 x (ix (x 0 0 1)) (x 0 0 3 + 3000))) ≤ ix (x 3 p 3)) := by
    generalize lf_X1_quietMinutes_11 x (ix (x 0 0 1)) (x 0 0 3 + 3000) = c0 at q11 ⊢
    rw [lf_X1_quietMinutes_59_eq]
    unfold ly_X1_quietMinutes_59
    refine itr_inv (n := ix (x 0 0 2)) (s := c0) (P := fun j (c : Int32) => VN 20000 c ∧ ix c ≤ ix c0 ∧ (∀ p, p < j → x 3 p 5 = 0 → ix c ≤ ix (x 3 p 2)) ∧ (∀ p, p < j → (x 3 p 5 = 1 ∨ x 3 p 5 = 2) → x 0 0 3 < x 3 p 3 → ix c ≤ ix (x 3 p 3))) (fun jz s => bd_X1_quietMinutes_59 x jz s) (fun j c hj g => ?_) ⟨q11.1, Nat.le_refl _, fun t ht => absurd ht (Nat.not_lt_zero t), fun t ht => absurd ht (Nat.not_lt_zero t)⟩
    obtain ⟨g1, g2, g3, g4⟩ := g
    have iq := hI.2.2.2 j hj
    show VN 20000 (bd_X1_quietMinutes_59 x j c) ∧ ix (bd_X1_quietMinutes_59 x j c) ≤ ix c0 ∧ (∀ p, p < j + 1 → x 3 p 5 = 0 → ix (bd_X1_quietMinutes_59 x j c) ≤ ix (x 3 p 2)) ∧ (∀ p, p < j + 1 → (x 3 p 5 = 1 ∨ x 3 p 5 = 2) → x 0 0 3 < x 3 p 3 → ix (bd_X1_quietMinutes_59 x j c) ≤ ix (x 3 p 3))
    have keep : ∀ c', VN 20000 c' → ix c' ≤ ix c → (x 3 j 5 = 0 → ix c' ≤ ix (x 3 j 2)) → ((x 3 j 5 = 1 ∨ x 3 j 5 = 2) → x 0 0 3 < x 3 j 3 → ix c' ≤ ix (x 3 j 3)) → VN 20000 c' ∧ ix c' ≤ ix c0 ∧ (∀ p, p < j + 1 → x 3 p 5 = 0 → ix c' ≤ ix (x 3 p 2)) ∧ (∀ p, p < j + 1 → (x 3 p 5 = 1 ∨ x 3 p 5 = 2) → x 0 0 3 < x 3 p 3 → ix c' ≤ ix (x 3 p 3)) := fun c' v l a b => ⟨v, Nat.le_trans l g2, fun p hp h => by
      rcases Nat.lt_or_ge p j with z | z
      · exact Nat.le_trans l (g3 p z h)
      · have : p = j := by omega
        subst this
        exact a h, fun p hp h h2 => by
      rcases Nat.lt_or_ge p j with z | z
      · exact Nat.le_trans l (g4 p z h h2)
      · have : p = j := by omega
        subst this
        exact b h h2⟩
    unfold bd_X1_quietMinutes_59
    rw [x_X0_isOnStandOrBay_eq]
    unfold y_X0_isOnStandOrBay
    by_cases h0 : x 3 j 5 = 0
    · rw [if_pos h0]
      have z := mn2 (vn_le iq.1 (by decide)) g1
      exact keep _ z.1 z.2.2 (fun _ => z.2.1) (fun y => by rw [h0] at y; exact absurd y (by decide))
    · rw [if_neg h0]
      by_cases hb : (if x 3 j 5 = 1 then true else if x 3 j 5 = 2 then true else false) = true
      · rw [if_pos hb]
        by_cases hl : x 0 0 3 < x 3 j 3
        · rw [if_pos hl]
          have z := mn2 (vn_le iq.2.1 (by decide)) g1
          exact keep _ z.1 z.2.2 (fun y => absurd y h0) (fun _ _ => z.2.1)
        · rw [if_neg hl]
          exact keep _ g1 (Nat.le_refl _) (fun y => absurd y h0) (fun _ y => absurd y hl)
      · rw [if_neg hb]
        refine keep _ g1 (Nat.le_refl _) (fun y => absurd y h0) (fun y _ => ?_)
        rcases y with y | y
        · simp [y] at hb
        · simp [y] at hb
  rw [x_X1_quietMinutes_eq]
  unfold y_X1_quietMinutes
  generalize lf_X1_quietMinutes_59 x (ix (x 0 0 2)) (lf_X1_quietMinutes_11 x (ix (x 0 0 1)) (x 0 0 3 + 3000)) = c at q59 ⊢
  obtain ⟨c1, c2, c3, c4⟩ := q59
  by_cases hc : x_X1_isCurfew x = true
  · rw [if_pos hc, rem_n hm]
    have e1 : x 0 0 3 - nI (ix (x 0 0 3) % 1440) = nI (ix (x 0 0 3) - ix (x 0 0 3) % 1440) := by
      conv => lhs; lhs; rw [hm.1]
      exact pk_sub (Nat.mod_le _ _)
    rw [e1]
    have v1 : VN 13000 (nI (ix (x 0 0 3) - ix (x 0 0 3) % 1440)) := by
      unfold VN
      rw [ix_nI (by omega)]
      exact ⟨rfl, by omega⟩
    have a := vn_add v1 hI.1.2.2.2.2.2.1 (by decide)
    rw [ix_nI (by omega)] at a
    have z := mn2 (vn_le a.1 (by decide)) c1
    refine ⟨_, by rw [← z.1.1], z.1.2, fun t ht h => ?_, fun p hp h => ?_, fun p hp h h2 => ?_, fun _ => ?_⟩
    · exact Nat.le_trans z.2.2 (Nat.le_trans c2 (q11.2 t ht h))
    · exact Nat.le_trans z.2.2 (c3 p hp h)
    · exact Nat.le_trans z.2.2 (c4 p hp h h2)
    · have := z.2.1
      rw [a.2] at this
      exact this
  · rw [if_neg hc]
    refine ⟨ix c, by rw [← c1.1], c1.2, fun t ht h => ?_, fun p hp h => ?_, fun p hp h h2 => ?_, fun y => absurd y hc⟩
    · exact Nat.le_trans c2 (q11.2 t ht h)
    · exact c3 p hp h
    · exact c4 p hp h h2
theorem sub3 {a b : Nat} (ha : a < 100000) (hb : b < 100000) : (nI a - nI b - 1).toInt = (a : Int) - b - 1 := by
  have e1 : (1 : Int32).toInt = 1 := by decide
  rw [Int32.toInt_sub, Int32.toInt_sub, e1, nI_toInt (by omega), nI_toInt (by omega)]
  rw [show ((a : Int) - b).bmod (2 ^ 32) = (a : Int) - b from Int.bmod_eq_of_le (by omega) (by omega)]
  exact Int.bmod_eq_of_le (by omega) (by omega)
/-- the minutes that are passed besides the first one -/
theorem q_ok (hm : VN 13000 w) {n : Nat} (hn : n ≤ 20000) (hP : 1 ≤ P) (hP2 : P ≤ 3000) : ∃ q, (if 0 < (if (nI P - 1) < (nI n - w - 1) then (nI P - 1) else (nI n - w - 1)) then (if (nI P - 1) < (nI n - w - 1) then (nI P - 1) else (nI n - w - 1)) else 0) = nI q ∧ q + 1 ≤ P ∧ (q = 0 ∨ ix w + q + 1 ≤ n) := by
  have b := hm.2
  have eP : nI P - 1 = nI (P - 1) := pk_sub (b := 1) hP
  have z0 : (0 : Int32).toInt = 0 := by decide
  have eq : (nI n - w - 1).toInt = (n : Int) - ix w - 1 := by
    conv => lhs; rw [hm.1]
    exact sub3 (by omega) (by omega)
  have tP : (nI (P - 1)).toInt = ((P - 1 : Nat) : Int) := nI_toInt (by omega)
  rw [eP]
  by_cases g : nI (P - 1) < nI n - w - 1
  · rw [if_pos g]
    rw [Int32.lt_iff_toInt_lt, eq, tP] at g
    by_cases g2 : (0 : Int32) < nI (P - 1)
    · rw [if_pos g2]
      exact ⟨P - 1, rfl, by omega, Or.inr (by omega)⟩
    · rw [if_neg g2]
      exact ⟨0, rfl, by omega, Or.inl rfl⟩
  · rw [if_neg g]
    rw [Int32.lt_iff_toInt_lt, eq, tP] at g
    by_cases g2 : (0 : Int32) < nI n - w - 1
    · rw [if_pos g2]
      rw [Int32.lt_iff_toInt_lt, eq, z0] at g2
      refine ⟨n - ix w - 1, ?_, by omega, Or.inr (by omega)⟩
      conv => lhs; rw [hm.1]
      rw [pk_sub (by omega)]
      exact pk_sub (b := 1) (by omega)
    · rw [if_neg g2]
      exact ⟨0, rfl, by omega, Or.inl rfl⟩
theorem agr_adv : AGR (adv w m) m := ⟨fun k hk => adv0 (by omega) (by omega) (by omega) (by omega), fun j k hk => adv0 (by omega) (by omega) (by omega) (by omega), fun j k hk => adv0 (by omega) (by omega) (by omega) (by omega), fun j k hk => adv0 (by omega) (by omega) (by omega) (by omega)⟩
theorem AGR.trans {z : Mem} (h : AGR x y) (g : AGR y z) : AGR x z := ⟨fun k hk => (h.1 k hk).trans (g.1 k hk), fun j k hk => (h.2.1 j k hk).trans (g.2.1 j k hk), fun j k hk => (h.2.2.1 j k hk).trans (g.2.2.1 j k hk), fun j k hk => (h.2.2.2 j k hk).trans (g.2.2.2 j k hk)⟩
theorem AGR.symm (h : AGR x y) : AGR y x := ⟨fun k hk => (h.1 k hk).symm, fun j k hk => (h.2.1 j k hk).symm, fun j k hk => (h.2.2.1 j k hk).symm, fun j k hk => (h.2.2.2 j k hk).symm⟩
theorem agr_wt (hx : ∀ f i z, x f i z = m f i z - dh m N f i z) : AGR x m := by
  have e : ∀ f i z, ¬ (f = 2 ∧ z = 2) → x f i z = m f i z := fun f i z h => by
    rw [hx]
    unfold dh
    rw [if_neg (by omega)]
    simp
  exact ⟨fun k hk => e _ _ _ (by omega), fun j k hk => e _ _ _ (by omega), fun j k hk => e _ _ _ (by omega), fun j k hk => e _ _ _ (by omega)⟩
theorem cur_n (hI : IN x) : x_X1_isCurfew x = true ↔ ix (x 0 0 4) ≤ ix (x 0 0 3) % 1440 ∧ ix (x 0 0 3) % 1440 < ix (x 0 0 5) := by
  have v4 := hI.1.2.2.2.2.1
  have v5 := hI.1.2.2.2.2.2.1
  have b4 := v4.2
  have b5 := v5.2
  rw [x_X1_isCurfew_eq]
  unfold y_X1_isCurfew
  rw [rem_n hI.mi]
  have l4 : nI (ix (x 0 0 3) % 1440) < x 0 0 4 ↔ ix (x 0 0 3) % 1440 < ix (x 0 0 4) := by
    conv => lhs; rw [v4.1]
    exact nI_ltI (by omega) (by omega)
  have l5 : nI (ix (x 0 0 3) % 1440) < x 0 0 5 ↔ ix (x 0 0 3) % 1440 < ix (x 0 0 5) := by
    conv => lhs; rw [v5.1]
    exact nI_ltI (by omega) (by omega)
  by_cases g : nI (ix (x 0 0 3) % 1440) < x 0 0 4
  · rw [if_pos g]
    have := l4.mp g
    simp
    omega
  · rw [if_neg g]
    by_cases g5 : nI (ix (x 0 0 3) % 1440) < x 0 0 5
    · rw [if_pos g5]
      have a := l5.mp g5
      have b : ¬ ix (x 0 0 3) % 1440 < ix (x 0 0 4) := fun z => g (l4.mpr z)
      simp
      omega
    · rw [if_neg g5]
      have b : ¬ ix (x 0 0 3) % 1440 < ix (x 0 0 5) := fun z => g5 (l5.mpr z)
      simp
      omega
end SOM
