/-! a minute -/
noncomputable def M1 (m : Mem) : Mem := up3 (x_X1_countMinutes (x_X1_tow (x_X1_pushBack (x_X1_receive (x_X1_workTugs m)))) 1) 0 0 3 ((x_X1_countMinutes (x_X1_tow (x_X1_pushBack (x_X1_receive (x_X1_workTugs m)))) 1) 0 0 3 + 1)
section MIN
variable {m μ : Mem} {B j p q k N : Nat} {w : Int32}
theorem cm_body (h : RR m μ) (hj : j < ix (m 0 0 0)) : RR (bd_X1_countMinutes_2 1 j m) (bd_X7_minute_18 j μ) ∧ bd_X1_countMinutes_2 1 j m 0 = m 0 ∧ bd_X1_countMinutes_2 1 j m 4 = m 4 := by
  obtain ⟨hV, hI⟩ := id h
  have bs := hI.ns.2
  have bt := hI.nt.2
  have ba := hI.na.2
  unfold bd_X1_countMinutes_2 bd_X7_minute_18
  rw [po_eq h hj]
  by_cases h1 : m 1 j 1 = -1
  · rw [if_pos h1, if_pos h1]
    exact ⟨h, rfl, rfl⟩
  · rw [if_neg h1, if_neg h1]
    obtain ⟨p, hp, ep⟩ := (hI.2.1.2.2 j hj).resolve_left h1
    have ep' : m 1 j 1 = nI p := ep
    rw [up3_ne (m := m) (f := 1) (k := 2) (k' := 1) (by simp), ep', ix_nI (by omega), ← hV.s2 hj]
    have V1 := hV.upS2 (j := j) (v := m 1 j 2 + 1) (by omega)
    have e8 : up3 m 1 j 2 (m 1 j 2 + 1) 3 p 8 = m 3 p 8 := up3_ne (by simp)
    have e8' : up3 μ 1 0 (8 + 2 * j + 1) (m 1 j 2 + 1) 1 0 (35 + 10 * p + 8) = m 3 p 8 := by
      rw [up1, if_neg (by omega)]
      exact (hV.a hp (by decide)).symm
    rw [e8, e8']
    have V2 := V1.upA (p := p) (k := 8) (v := m 3 p 8 + 1) (by rw [up3_ne (by simp)]; exact bs) (by rw [up3_ne (by simp)]; exact bt) (by omega) (by decide)
    refine ⟨⟨V2, hI.mk' (by rw [up3_fam (by decide), up3_fam (by decide)]) ?_ (fun t ht => ?_) (fun q hq => ?_)⟩, by rw [up3_fam (by decide), up3_fam (by decide)], by rw [up3_fam (by decide), up3_fam (by decide)]⟩
    · rw [show (fun q => up3 (up3 m 1 j 2 (m 1 j 2 + 1)) 3 p 8 (m 3 p 8 + 1) 3 q 5) = fun q => m 3 q 5 from funext fun q => by rw [up3_ne (by omega), up3_ne (by simp)], show (fun q => up3 (up3 m 1 j 2 (m 1 j 2 + 1)) 3 p 8 (m 3 p 8 + 1) 3 q 6) = fun q => m 3 q 6 from funext fun q => by rw [up3_ne (by omega), up3_ne (by simp)], show (fun q => up3 (up3 m 1 j 2 (m 1 j 2 + 1)) 3 p 8 (m 3 p 8 + 1) 1 q 1) = fun q => m 1 q 1 from funext fun q => by rw [up3_ne (by simp), up3_ne (by omega)]]
      exact hI.2.1
    · rw [up3_ne (by simp), up3_ne (by simp), up3_ne (by simp), up3_ne (by simp)]
      exact hI.2.2.1 t ht
    · rw [up3_ne (by omega), up3_ne (by omega), up3_ne (by omega), up3_ne (by omega), up3_ne (by omega), up3_ne (by omega)]
      exact hI.2.2.2 q hq
theorem IN.minute {v : Int32} (h : IN m) (hv : VN 13000 v) : IN (up3 m 0 0 3 v) := by
  have e : ∀ z, z < 3 → up3 m 0 0 3 v 0 0 z = m 0 0 z := fun z hz => up3_ne (by omega)
  unfold IN IC
  rw [e 0 (by decide), e 1 (by decide), e 2 (by decide), up3_self, up3_ne (k' := 4) (by simp), up3_ne (k' := 5) (by simp)]
  refine ⟨⟨h.ns, h.nt, h.na, hv, h.1.2.2.2.2⟩, ?_, ?_, ?_⟩
  · rw [up3_fam (by decide), up3_fam (by decide)]
    exact h.2.1
  · unfold IT
    rw [up3_fam (by decide)]
    exact h.2.2.1
  · unfold IQ
    rw [up3_fam (by decide)]
    exact h.2.2.2
theorem m1_ok (h : RB B m μ) (hB : B + 39 < 2 ^ 31) (ht : ix (m 0 0 3) < 13000) : RB (B + 39) (M1 m) (x_X7_minute μ) ∧ (∀ k, k ≠ 3 → M1 m 0 0 k = m 0 0 k) ∧ M1 m 0 0 3 = m 0 0 3 + 1 := by
  have w1 := wt_ok h (by omega)
  have w2 := rc_ok w1.1 (by omega)
  have w3 := pb_ok w2.1 (by omega)
  have w4 := tw_ok w3.1 (by omega)
  have e0 : x_X1_tow (x_X1_pushBack (x_X1_receive (x_X1_workTugs m))) 0 = m 0 := w4.2.trans (w3.2.1.trans (w2.2.trans w1.2))
  unfold M1
  rw [x_X7_minute_eq]
  unfold y_X7_minute
  generalize x_X1_tow (x_X1_pushBack (x_X1_receive (x_X1_workTugs m))) = m4 at w4 e0 ⊢
  generalize x_X7_towing (x_X7_pushbacks (x_X7_arrivals (x_X7_tugs μ))) = μ4 at w4 ⊢
  have hr := w4.1
  have q : RR (x_X1_countMinutes m4 1) (lf_X7_minute_18 (ix (μ 1 0 0)) μ4) ∧ x_X1_countMinutes m4 1 0 = m 0 ∧ x_X1_countMinutes m4 1 4 = m4 4 := by
    rw [x_X1_countMinutes_eq]
    unfold y_X1_countMinutes
    rw [lf_X1_countMinutes_2_eq, lf_X7_minute_18_eq]
    unfold ly_X1_countMinutes_2 ly_X7_minute_18
    rw [← h.1.1.c (k := 0) (by decide), e0]
    exact itr_rel (n := ix (m 0 0 0)) (P := fun i s t => RR s t ∧ s 0 = m 0 ∧ s 4 = m4 4) (fun jz s => bd_X1_countMinutes_2 1 jz s) (fun jz s => bd_X7_minute_18 jz s) (fun i s t hi g => by
      have w := cm_body g.1 (show i < ix (s 0 0 0) by rw [g.2.1]; exact hi)
      exact ⟨w.1, w.2.1.trans g.2.1, w.2.2.trans g.2.2⟩) ⟨hr.1, e0, rfl⟩
  rw [q.2.1]
  have vm := h.1.2.mi
  have vm1 : VN 13000 (m 0 0 3 + 1) := by
    have e : m 0 0 3 + 1 = nI (ix (m 0 0 3) + 1) := by rw [← nI_1, ← vm.1]
    unfold VN
    rw [e, ix_nI (by omega)]
    exact ⟨rfl, by omega⟩
  have e3 : lf_X7_minute_18 (ix (μ 1 0 0)) μ4 1 0 3 = m 0 0 3 := by
    rw [← q.1.1.c (k := 3) (by decide), q.2.1]
  rw [e3]
  refine ⟨⟨⟨q.1.1.upF (by decide) (by decide) (by rw [q.2.1]; exact h.1.2.ns.2), q.1.2.minute vm1⟩, ?_⟩, fun k hk => ?_, by rw [up3_self]⟩
  · rw [up3_ne (by simp), q.2.2]
    exact ⟨hr.2.1, Nat.le_trans hr.2.2 (by omega)⟩
  · rw [up3_ne (by omega), q.2.1]
/-! what a minute without an event leaves -/
theorem ne_rc (hv : VN B (m 4 0 0)) (hB : B + 12 < 2 ^ 31) (ha : ix (m 0 0 2) ≤ 12) : ix (m 4 0 0) ≤ ix (x_X1_receive m 4 0 0) ∧ VN (B + 12) (x_X1_receive m 4 0 0) ∧ (ix (x_X1_receive m 4 0 0) = ix (m 4 0 0) → x_X1_receive m = m ∧ ∀ p, p < ix (m 0 0 2) → m 3 p 5 = 0 → m 0 0 3 < m 3 p 2) := by
  rw [x_X1_receive_eq]
  unfold y_X1_receive
  rw [lf_X1_receive_2_eq]
  unfold ly_X1_receive_2
  have q := itr_inv (n := ix (m 0 0 2)) (s := m) (P := fun j (s : Mem) => ix (m 4 0 0) ≤ ix (s 4 0 0) ∧ VN (B + j) (s 4 0 0) ∧ (ix (s 4 0 0) = ix (m 4 0 0) → s = m ∧ ∀ p, p < j → m 3 p 5 = 0 → m 0 0 3 < m 3 p 2)) (fun jz s => bd_X1_receive_2 jz s) (fun j s hj g => ?_) ⟨Nat.le_refl _, hv, fun _ => ⟨rfl, fun p hp => absurd hp (Nat.not_lt_zero p)⟩⟩
  · exact ⟨q.1, ⟨q.2.1.1, Nat.le_trans q.2.1.2 (by omega)⟩, q.2.2⟩
  · obtain ⟨g1, g2, g3⟩ := g
    have b2 := g2.2
    have ev : ∀ s' : Mem, s' 4 = s 4 → ∀ a b c, ix (m 4 0 0) ≤ ix (x_X2_put s' a b c 4 0 0) ∧ VN (B + (j + 1)) (x_X2_put s' a b c 4 0 0) ∧ (ix (x_X2_put s' a b c 4 0 0) = ix (m 4 0 0) → x_X2_put s' a b c = m ∧ ∀ p, p < j + 1 → m 3 p 5 = 0 → m 0 0 3 < m 3 p 2) := fun s' e a b c => by
      have := vn_s g2 (by omega)
      rw [put_4, e, this.2]
      exact ⟨by omega, this.1, fun z => absurd z (by omega)⟩
    show ix (m 4 0 0) ≤ ix (bd_X1_receive_2 j s 4 0 0) ∧ VN (B + (j + 1)) (bd_X1_receive_2 j s 4 0 0) ∧ (ix (bd_X1_receive_2 j s 4 0 0) = ix (m 4 0 0) → bd_X1_receive_2 j s = m ∧ ∀ p, p < j + 1 → m 3 p 5 = 0 → m 0 0 3 < m 3 p 2)
    have st : (s 3 j 5 = 0 → s 0 0 3 < s 3 j 2) → ix (m 4 0 0) ≤ ix (s 4 0 0) ∧ VN (B + (j + 1)) (s 4 0 0) ∧ (ix (s 4 0 0) = ix (m 4 0 0) → s = m ∧ ∀ p, p < j + 1 → m 3 p 5 = 0 → m 0 0 3 < m 3 p 2) := fun z => ⟨g1, ⟨g2.1, by omega⟩, fun y => ⟨(g3 y).1, fun p hp hp5 => by
      rcases Nat.lt_or_ge p j with l | l
      · exact (g3 y).2 p l hp5
      · have : p = j := by omega
        subst this
        have e := (g3 y).1
        rw [e] at z
        exact z hp5⟩⟩
    unfold bd_X1_receive_2
    by_cases h1 : s 3 j 5 = 0
    · rw [if_pos h1]
      by_cases h2 : s 0 0 3 < s 3 j 2
      · rw [if_pos h2]
        exact st (fun _ => h2)
      · rw [if_neg h2]
        split
        · exact ev _ (by rw [bu_f (by decide), up3_fam (by decide)]) _ _ _
        · exact ev _ (by rw [up3_fam (by decide), up3_fam (by decide), up3_fam (by decide)]) _ _ _
    · rw [if_neg h1]
      exact st (fun z => absurd z h1)
theorem ne_tw (hv : VN B (m 4 0 0)) (hB : B + 12 < 2 ^ 31) (ha : ix (m 0 0 2) ≤ 12) : ix (m 4 0 0) ≤ ix (x_X1_tow m 4 0 0) ∧ (ix (x_X1_tow m 4 0 0) = ix (m 4 0 0) → x_X1_tow m = m ∧ ∀ p, p < ix (m 0 0 2) → m 3 p 5 = 2 → m 0 0 3 + 30 < m 3 p 3 → x_X1_freeStandFor m (m 3 p 0) = -1 ∨ x_X1_freeTugFor m (m 3 p 1) = -1) := by
  rw [x_X1_tow_eq]
  unfold y_X1_tow
  rw [lf_X1_tow_2_eq]
  unfold ly_X1_tow_2
  have q := itr_inv (n := ix (m 0 0 2)) (s := m) (P := fun j (s : Mem) => ix (m 4 0 0) ≤ ix (s 4 0 0) ∧ VN (B + j) (s 4 0 0) ∧ (ix (s 4 0 0) = ix (m 4 0 0) → s = m ∧ ∀ p, p < j → m 3 p 5 = 2 → m 0 0 3 + 30 < m 3 p 3 → x_X1_freeStandFor m (m 3 p 0) = -1 ∨ x_X1_freeTugFor m (m 3 p 1) = -1)) (fun jz s => bd_X1_tow_2 jz s) (fun j s hj g => ?_) ⟨Nat.le_refl _, hv, fun _ => ⟨rfl, fun p hp => absurd hp (Nat.not_lt_zero p)⟩⟩
  · exact ⟨q.1, q.2.2⟩
  · obtain ⟨g1, g2, g3⟩ := g
    have b2 := g2.2
    show ix (m 4 0 0) ≤ ix (bd_X1_tow_2 j s 4 0 0) ∧ VN (B + (j + 1)) (bd_X1_tow_2 j s 4 0 0) ∧ (ix (bd_X1_tow_2 j s 4 0 0) = ix (m 4 0 0) → bd_X1_tow_2 j s = m ∧ ∀ p, p < j + 1 → m 3 p 5 = 2 → m 0 0 3 + 30 < m 3 p 3 → x_X1_freeStandFor m (m 3 p 0) = -1 ∨ x_X1_freeTugFor m (m 3 p 1) = -1)
    have st : (s 3 j 5 = 2 → s 0 0 3 + 30 < s 3 j 3 → x_X1_freeStandFor s (s 3 j 0) = -1 ∨ x_X1_freeTugFor s (s 3 j 1) = -1) → ix (m 4 0 0) ≤ ix (s 4 0 0) ∧ VN (B + (j + 1)) (s 4 0 0) ∧ (ix (s 4 0 0) = ix (m 4 0 0) → s = m ∧ ∀ p, p < j + 1 → m 3 p 5 = 2 → m 0 0 3 + 30 < m 3 p 3 → x_X1_freeStandFor m (m 3 p 0) = -1 ∨ x_X1_freeTugFor m (m 3 p 1) = -1) := fun z => ⟨g1, ⟨g2.1, by omega⟩, fun y => ⟨(g3 y).1, fun p hp hp5 hp3 => by
      rcases Nat.lt_or_ge p j with l | l
      · exact (g3 y).2 p l hp5 hp3
      · have : p = j := by omega
        subst this
        have e := (g3 y).1
        rw [e] at z
        exact z hp5 hp3⟩⟩
    unfold bd_X1_tow_2
    by_cases h1 : s 3 j 5 = 2
    · rw [if_pos h1]
      by_cases h2 : s 0 0 3 + 30 < s 3 j 3
      · rw [if_pos h2]
        by_cases h3 : x_X1_freeStandFor s (s 3 j 0) = -1
        · rw [if_pos h3]
          exact st (fun _ _ => Or.inl h3)
        · rw [if_neg h3]
          by_cases h4 : x_X1_freeTugFor s (s 3 j 1) = -1
          · rw [if_pos h4]
            exact st (fun _ _ => Or.inr h4)
          · rw [if_neg h4]
            have := vn_s g2 (by omega)
            have e4 : ∀ s' : Mem, s' 4 = s 4 → ∀ a b c, ix (x_X2_put s' a b c 4 0 0) = ix (s 4 0 0) + 1 ∧ VN (B + (j + 1)) (x_X2_put s' a b c 4 0 0) := fun s' e a b c => by
              rw [put_4, e]
              exact ⟨this.2, this.1⟩
            have z := e4 (up3 (x_X5_take (up3 (up3 (up3 s 3 j 5 3) 3 j 6 (x_X1_freeStandFor s (s 3 j 0))) 1 (ix (x_X1_freeStandFor s (s 3 j 0))) 1 (nI j)) (ix (x_X1_freeTugFor s (s 3 j 1))) (nI j) 10) 2 (ix (x_X1_freeTugFor s (s 3 j 1))) 4 (((x_X5_take (up3 (up3 (up3 s 3 j 5 3) 3 j 6 (x_X1_freeStandFor s (s 3 j 0))) 1 (ix (x_X1_freeStandFor s (s 3 j 0))) 1 (nI j)) (ix (x_X1_freeTugFor s (s 3 j 1))) (nI j) 10) 2 (ix (x_X1_freeTugFor s (s 3 j 1))) 4) + 1)) (by rw [up3_fam (by decide), tk_f (by decide), up3_fam (by decide), up3_fam (by decide), up3_fam (by decide)])
            exact ⟨by rw [(z _ _ _).1]; omega, (z _ _ _).2, fun y => by rw [(z _ _ _).1] at y; omega⟩
      · rw [if_neg h2]
        exact st (fun _ z => absurd z h2)
    · rw [if_neg h1]
      exact st (fun z => absurd z h1)
/-- tugs that all go on -/
def dh (m : Mem) (N : Nat) : Nat → Nat → Nat → Int32 := fun f t z => if f = 2 ∧ z = 2 ∧ t < N then (if m 2 t 1 = -1 then 0 else 1) else 0
theorem dh_s {N : Nat} (f t z : Nat) : dh m (N + 1) f t z = dh m N f t z + (if f = 2 ∧ z = 2 ∧ t = N then (if m 2 t 1 = -1 then 0 else 1) else 0) := by
  unfold dh
  by_cases h : f = 2 ∧ z = 2
  · by_cases l : t < N
    · rw [if_pos (show f = 2 ∧ z = 2 ∧ t < N + 1 from ⟨h.1, h.2, by omega⟩), if_pos (show f = 2 ∧ z = 2 ∧ t < N from ⟨h.1, h.2, l⟩), if_neg (show ¬ (f = 2 ∧ z = 2 ∧ t = N) by omega)]
      simp
    · by_cases e : t = N
      · rw [if_pos (show f = 2 ∧ z = 2 ∧ t < N + 1 from ⟨h.1, h.2, by omega⟩), if_neg (show ¬ (f = 2 ∧ z = 2 ∧ t < N) by omega), if_pos (show f = 2 ∧ z = 2 ∧ t = N from ⟨h.1, h.2, e⟩)]
        simp
      · rw [if_neg (by omega), if_neg (by omega), if_neg (by omega)]
        rfl
  · rw [if_neg (fun z => h ⟨z.1, z.2.1⟩), if_neg (fun z => h ⟨z.1, z.2.1⟩), if_neg (fun z => h ⟨z.1, z.2.1⟩)]
    rfl
theorem ne_wt (hv : VN B (m 4 0 0)) (hB : B + 3 < 2 ^ 31) (ha : ix (m 0 0 1) ≤ 3) : ix (m 4 0 0) ≤ ix (x_X1_workTugs m 4 0 0) ∧ VN (B + 3) (x_X1_workTugs m 4 0 0) ∧ (ix (x_X1_workTugs m 4 0 0) = ix (m 4 0 0) → (∀ f t z, x_X1_workTugs m f t z = m f t z - dh m (ix (m 0 0 1)) f t z) ∧ ∀ t, t < ix (m 0 0 1) → ¬ m 2 t 1 = -1 → ¬ m 2 t 2 - 1 = 0) := by
  rw [x_X1_workTugs_eq]
  unfold y_X1_workTugs
  rw [lf_X1_workTugs_2_eq]
  unfold ly_X1_workTugs_2
  have q := itr_inv (n := ix (m 0 0 1)) (s := m) (P := fun j (s : Mem) => ix (m 4 0 0) ≤ ix (s 4 0 0) ∧ VN (B + j) (s 4 0 0) ∧ (ix (s 4 0 0) = ix (m 4 0 0) → (∀ f t z, s f t z = m f t z - dh m j f t z) ∧ ∀ t, t < j → ¬ m 2 t 1 = -1 → ¬ m 2 t 2 - 1 = 0)) (fun jz s => bd_X1_workTugs_2 jz s) (fun j s hj g => ?_) ⟨Nat.le_refl _, hv, fun _ => ⟨fun f t z => by
    show m f t z = m f t z - dh m 0 f t z
    unfold dh
    rw [if_neg (by omega)]
    simp, fun p hp => absurd hp (Nat.not_lt_zero p)⟩⟩
  · exact ⟨q.1, ⟨q.2.1.1, Nat.le_trans q.2.1.2 (by omega)⟩, q.2.2⟩
  · obtain ⟨g1, g2, g3⟩ := g
    have b2 := g2.2
    show ix (m 4 0 0) ≤ ix (bd_X1_workTugs_2 j s 4 0 0) ∧ VN (B + (j + 1)) (bd_X1_workTugs_2 j s 4 0 0) ∧ (ix (bd_X1_workTugs_2 j s 4 0 0) = ix (m 4 0 0) → (∀ f t z, bd_X1_workTugs_2 j s f t z = m f t z - dh m (j + 1) f t z) ∧ ∀ t, t < j + 1 → ¬ m 2 t 1 = -1 → ¬ m 2 t 2 - 1 = 0)
    have s1 : ix (s 4 0 0) = ix (m 4 0 0) → s 2 j 1 = m 2 j 1 ∧ s 2 j 2 = m 2 j 2 := fun y => by
      rw [(g3 y).1, (g3 y).1]
      unfold dh
      rw [if_neg (by omega), if_neg (by omega)]
      simp
    unfold bd_X1_workTugs_2
    rw [up3_self]
    by_cases h1 : s 2 j 1 = -1
    · rw [if_pos h1]
      refine ⟨g1, ⟨g2.1, by omega⟩, fun y => ⟨fun f t z => ?_, fun t ht ht1 => ?_⟩⟩
      · rw [(g3 y).1, dh_s]
        by_cases e : f = 2 ∧ z = 2 ∧ t = j
        · rw [if_pos e, if_pos (by rw [e.2.2, ← (s1 y).1]; exact h1)]
          simp
        · rw [if_neg e]
          simp
      · rcases Nat.lt_or_ge t j with l | l
        · exact (g3 y).2 t l ht1
        · have : t = j := by omega
          subst this
          rw [(s1 y).1] at h1
          exact absurd h1 ht1
    · rw [if_neg h1]
      by_cases h2 : s 2 j 2 - 1 = 0
      · rw [if_pos h2]
        have f4 : ∀ (s' : Mem) (q : Nat), s' 4 = s 4 → ix (x_X1_finish s' q 4 0 0) = ix (s 4 0 0) + 1 ∧ VN (B + (j + 1)) (x_X1_finish s' q 4 0 0) := fun s' q e => by
          have := vn_s g2 (by omega)
          rw [x_X1_finish_eq]
          unfold y_X1_finish
          repeat' split
          · rw [put_4, up3_fam (by decide), e]
            exact ⟨this.2, this.1⟩
          · rw [put_4, up3_fam (by decide), e]
            exact ⟨this.2, this.1⟩
          · rw [put_4, up3_fam (by decide), up3_fam (by decide), up3_fam (by decide), e]
            exact ⟨this.2, this.1⟩
        rw [up3_fam (f := 2) (f' := 4) (m := x_X1_finish _ _) (by decide)]
        have z := f4 (up3 s 2 j 2 (s 2 j 2 - 1)) (ix (up3 s 2 j 2 (s 2 j 2 - 1) 2 j 1)) (up3_fam (by decide))
        exact ⟨by rw [z.1]; omega, z.2, fun y => by rw [z.1] at y; omega⟩
      · rw [if_neg h2, up3_fam (f' := 4) (by decide)]
        refine ⟨g1, ⟨g2.1, by omega⟩, fun y => ⟨fun f t z => ?_, fun t ht ht1 => ?_⟩⟩
        · by_cases e : f = 2 ∧ z = 2 ∧ t = j
          · obtain ⟨rfl, rfl, rfl⟩ := e
            rw [up3_self, dh_s, if_pos ⟨rfl, rfl, rfl⟩, if_neg (by rw [← (s1 y).1]; exact h1), (s1 y).2]
            unfold dh
            rw [if_neg (by omega)]
            simp
          · rw [up3_ne (by omega), (g3 y).1, dh_s, if_neg e]
            simp
        · rcases Nat.lt_or_ge t j with l | l
          · exact (g3 y).2 t l ht1
          · have : t = j := by omega
            subst this
            rw [(s1 y).2] at h2
            exact h2
end MIN
