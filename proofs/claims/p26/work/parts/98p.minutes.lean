/-! counting, a minute, many minutes, on both sides -/
section CMT
variable {m m' n n' s : Mem} {w v d c : Int32} {B P j p q k t i K N f : Nat}
theorem GS.cg (h : GS m) (e0 : ∀ z, z < 3 → n 0 0 z = m 0 0 z) (e1 : ∀ j z, z < 2 → n 1 j z = m 1 j z) (e2 : n 2 = m 2) (e3 : ∀ p z, z < 8 → n 3 p z = m 3 p z) : GS n := by
  obtain ⟨gS, gN, gD, gT, gU⟩ := h
  have pf : ∀ a, PF n a ↔ PF m a := fun a => by
    unfold PF
    rw [e1 a 1 (by decide), e3 _ 5 (by decide)]
  unfold GS
  rw [e0 0 (by decide), e0 1 (by decide), e0 2 (by decide), e2]
  refine ⟨fun j p hj hp hh e => ?_, fun j hj g => gN j hj ⟨(pf j).mp g.1, (pf (j + 1)).mp g.2⟩, fun p hp => ?_, fun t ht => ⟨(gT t ht).1, fun p hp e => ?_⟩, gU⟩
  · rw [e3 p 5 (by decide)] at hh
    rw [e3 p 6 (by decide)] at e
    rw [e1 j 0 (by decide), e3 p 0 (by decide)]
    exact gS j p hj hp hh e
  · rw [e3 p 5 (by decide), e3 p 7 (by decide)]
    exact gD p hp
  · rw [e3 p 5 (by decide), e3 p 1 (by decide)]
    exact (gT t ht).2 p hp e
theorem DS.cg (h : DS m) (e0 : ∀ z, z < 3 → n 0 0 z = m 0 0 z) (e1 : ∀ j, n 1 j 0 = m 1 j 0) (e2 : n 2 = m 2) : DS n := by
  unfold DS
  rw [e0 0 (by decide), e0 1 (by decide), e2]
  refine ⟨fun i j hi hj e => ?_, h.2⟩
  rw [e1, e1] at e
  exact h.1 i j hi hj e
theorem isum_cg {f g : Nat → Int32} : ∀ K, (∀ i, i < K → f i = g i) → isum f K = isum g K
  | 0, _ => rfl
  | K + 1, h => by
    show isum f K + f K = isum g K + g K
    rw [isum_cg K (fun i hi => h i (by omega)), h K (Nat.lt_succ_self K)]
theorem isum_add {f g : Nat → Int32} : ∀ K, isum (fun i => f i + g i) K = isum f K + isum g K
  | 0 => rfl
  | K + 1 => by
    show isum (fun i => f i + g i) K + (f K + g K) = isum f K + f K + (isum g K + g K)
    rw [isum_add K, Int32.add_assoc, Int32.add_assoc, ← Int32.add_assoc (isum g K), Int32.add_comm (isum g K) (f K), Int32.add_assoc]
theorem isum_0 : ∀ K, isum (fun _ => 0) K = 0
  | 0 => rfl
  | K + 1 => by
    show isum (fun _ => 0) K + 0 = 0
    rw [isum_0 K]
    rfl
theorem isum_one {a : Nat} : ∀ K, a < K → isum (fun i => if i = a then c else 0) K = c
  | 0, h => absurd h (Nat.not_lt_zero a)
  | K + 1, h => by
    show isum (fun i => if i = a then c else 0) K + (if K = a then c else 0) = c
    by_cases e : K = a
    · subst e
      rw [if_pos rfl, isum_cg (g := fun _ => 0) K (fun i hi => if_neg (by omega)), isum_0]
      simp
    · rw [isum_one K (by omega), if_neg e]
      simp
/-- one for each stand that is had -/
theorem ht_s : ∀ N, htN m N 1 j 2 = if j < N then (if m 1 j 1 = -1 then 0 else 1) else 0
  | 0 => by
    rw [if_neg (Nat.not_lt_zero j)]
    rfl
  | N + 1 => by
    show htN m N 1 j 2 + (if m 1 N 1 = -1 then 0 else if ((1 : Nat) = 1 ∧ j = N ∧ (2 : Nat) = 2) ∨ ((1 : Nat) = 3 ∧ j = ix (m 1 N 1) ∧ (2 : Nat) = 8) then 1 else 0) = _
    rw [ht_s N]
    by_cases e : j = N
    · subst e
      rw [if_neg (Nat.lt_irrefl j), if_pos (Nat.lt_succ_self j), if_pos (Or.inl ⟨rfl, rfl, rfl⟩), Int32.zero_add]
    · rw [if_neg (show ¬ (((1 : Nat) = 1 ∧ j = N ∧ (2 : Nat) = 2) ∨ ((1 : Nat) = 3 ∧ j = ix (m 1 N 1) ∧ (2 : Nat) = 8)) by omega)]
      by_cases l : j < N
      · rw [if_pos l, if_pos (show j < N + 1 by omega)]
        split <;> simp
      · rw [if_neg l, if_neg (show ¬ j < N + 1 by omega)]
        split <;> simp
def oc (m : Mem) (j p : Nat) : Int32 := if m 1 j 1 = -1 then 0 else if p = ix (m 1 j 1) then 1 else 0
theorem ht_a : htN m (N + 1) 3 p 8 = htN m N 3 p 8 + oc m N p := by
  show htN m N 3 p 8 + (if m 1 N 1 = -1 then 0 else if ((3 : Nat) = 1 ∧ p = N ∧ (8 : Nat) = 2) ∨ ((3 : Nat) = 3 ∧ p = ix (m 1 N 1) ∧ (8 : Nat) = 8) then 1 else 0) = _
  unfold oc
  congr 1
  by_cases e : m 1 N 1 = -1
  · rw [if_pos e, if_pos e]
  · rw [if_neg e, if_neg e]
    by_cases g : p = ix (m 1 N 1)
    · rw [if_pos g, if_pos (Or.inr ⟨rfl, g, rfl⟩)]
    · rw [if_neg g, if_neg (by omega)]
theorem ht_sum (hI : IN m) : ∀ N, N ≤ ix (m 0 0 0) → isum (fun p => htN m N 3 p 8) (ix (m 0 0 2)) = isum (fun j => htN m N 1 j 2) (ix (m 0 0 0))
  | 0, _ => by
    have e1 : isum (fun p => htN m 0 3 p 8) (ix (m 0 0 2)) = 0 := isum_0 _
    have e2 : isum (fun j => htN m 0 1 j 2) (ix (m 0 0 0)) = 0 := isum_0 _
    rw [e1, e2]
  | N + 1, h => by
    have ba := hI.na.2
    rw [isum_cg (f := fun p => htN m (N + 1) 3 p 8) (g := fun p => htN m N 3 p 8 + oc m N p) _ (fun p _ => ht_a), isum_add, ht_sum hI N (by omega)]
    have e : isum (fun j => htN m (N + 1) 1 j 2) (ix (m 0 0 0)) = isum (fun j => htN m N 1 j 2 + (if j = N then (if m 1 N 1 = -1 then 0 else 1) else 0)) (ix (m 0 0 0)) := isum_cg _ (fun j hj => by
      rw [ht_s, ht_s]
      by_cases g : j = N
      · subst g
        rw [if_pos (Nat.lt_succ_self j), if_neg (Nat.lt_irrefl j), if_pos rfl, Int32.zero_add]
      · rw [if_neg g]
        by_cases l : j < N
        · rw [if_pos l, if_pos (show j < N + 1 by omega)]
          simp
        · rw [if_neg l, if_neg (show ¬ j < N + 1 by omega)]
          simp)
    rw [e, isum_add, isum_one _ (by omega)]
    congr 1
    rcases hI.st (j := N) (by omega) with g | ⟨p, hp, g⟩
    · rw [if_pos g, isum_cg (g := fun _ => 0) _ (fun i _ => by unfold oc; rw [if_pos g]), isum_0]
    · have n1 : ¬ m 1 N 1 = -1 := by rw [g]; exact nI_n1 (by omega)
      rw [if_neg n1, isum_cg (g := fun i => if i = p then 1 else 0) _ (fun i _ => by unfold oc; rw [if_neg n1, g, ix_nI (by omega)]), isum_one _ hp]
theorem cm_at (h1 : ¬ (f = 1 ∧ k = 2)) (h3 : ¬ (f = 3 ∧ k = 8)) : x_X1_countMinutes m 1 f i k = m f i k := by
  rw [cm_form, ht0 h1 h3]
  simp
theorem cm_gx (h : GX m) (hI : IN m) : GX (x_X1_countMinutes m 1) := by
  have e0 : x_X1_countMinutes m 1 0 = m 0 := funext fun a => funext fun b => cm_at (by omega) (by omega)
  have e2 : x_X1_countMinutes m 1 2 = m 2 := funext fun a => funext fun b => cm_at (by omega) (by omega)
  refine ⟨h.1.cg (fun z _ => by rw [e0]) (fun j z hz => cm_at (by omega) (by omega)) e2 (fun p z hz => cm_at (by omega) (by omega)), ?_, h.2.2.cg (fun z _ => by rw [e0]) (fun j => cm_at (by omega) (by omega)) e2⟩
  unfold SM
  rw [e0]
  have s := h.2.1
  unfold SM at s
  have a : isum (fun p => x_X1_countMinutes m 1 3 p 8) (ix (m 0 0 2)) = isum (fun p => m 3 p 8 + htN m (ix (m 0 0 0)) 3 p 8) (ix (m 0 0 2)) := isum_cg _ (fun p _ => by rw [cm_form, Int32.one_mul])
  have b : isum (fun j => x_X1_countMinutes m 1 1 j 2) (ix (m 0 0 0)) = isum (fun j => m 1 j 2 + htN m (ix (m 0 0 0)) 1 j 2) (ix (m 0 0 0)) := isum_cg _ (fun p _ => by rw [cm_form, Int32.one_mul])
  rw [a, b, isum_add, isum_add, s, ht_sum hI _ (Nat.le_refl _)]
theorem oc_tw (h : TWN m m') (hj : j < 4) : oc m' j p = oc m (3 - j) p := by
  unfold oc
  rw [h.s' hj (by decide)]
theorem cm_tw (h : TWN m m') : TWN (x_X1_countMinutes m 1) (x_X1_countMinutes m' 1) := by
  refine ⟨fun z hz => ?_, ?_, fun j k hj hk => ?_, fun t k ht hk => ?_, fun p k hp hk => ?_, ?_⟩
  · rw [cm_at (by omega) (by omega), cm_at (by omega) (by omega)]
    exact h.1 z hz
  · rw [cm_at (by omega) (by omega), cm_at (by omega) (by omega)]
    exact h.2.1
  · by_cases e : k = 2
    · subst e
      rw [cm_form, cm_form, h.ns, h.ns', ht_s, ht_s, if_pos hj, if_pos (show 3 - j < 4 by omega), h.s hj (by decide), h.s hj (by decide)]
    · rw [cm_at (by omega) (by omega), cm_at (by omega) (by omega)]
      exact h.s hj hk
  · rw [cm_at (by omega) (by omega), cm_at (by omega) (by omega)]
    exact h.u ht hk
  · rw [cm_at (m := m) (f := 0) (by omega) (by omega)] at hp
    rw [cm_at (m := m) (f := 3) (k := 6) (by omega) (by omega)]
    by_cases e : k = 8
    · subst e
      rw [if_neg (by decide), cm_form, cm_form, h.ns, h.ns', h.a hp (k := 8) (by decide) (by decide)]
      congr 2
      have z : ∀ x : Mem, htN x 4 3 p 8 = 0 + oc x 0 p + oc x 1 p + oc x 2 p + oc x 3 p := fun x => by
        rw [ht_a, ht_a, ht_a, ht_a]
        rfl
      rw [z, z, oc_tw h (by decide), oc_tw h (by decide), oc_tw h (by decide), oc_tw h (by decide)]
      show 0 + oc m 3 p + oc m 2 p + oc m 1 p + oc m 0 p = 0 + oc m 0 p + oc m 1 p + oc m 2 p + oc m 3 p
      rw [Int32.zero_add, Int32.zero_add, Int32.add_comm (oc m 3 p + oc m 2 p + oc m 1 p), Int32.add_comm (oc m 3 p + oc m 2 p), Int32.add_comm (oc m 3 p), Int32.add_assoc, Int32.add_assoc]
    · rw [cm_at (by omega) (by omega), cm_at (by omega) (by omega)]
      exact h.2.2.2.2.1 p k hp hk
  · rw [cm_at (by omega) (by omega), cm_at (by omega) (by omega)]
    exact h.l
theorem GX.minute (h : GX m) : GX (up3 m 0 0 3 v) := by
  have e : ∀ f, f ≠ 0 → up3 m 0 0 3 v f = m f := fun f hf => up3_fam hf
  have e0 : ∀ z, z < 3 → up3 m 0 0 3 v 0 0 z = m 0 0 z := fun z hz => up3_ne (by omega)
  exact ⟨h.1.cg e0 (fun j z _ => by rw [e 1 (by decide)]) (e 2 (by decide)) (fun p z _ => by rw [e 3 (by decide)]), h.2.1.up (Or.inr (Or.inr (Or.inr ⟨rfl, by decide⟩))), h.2.2.up (Or.inr (Or.inr (Or.inr ⟨rfl, by decide⟩)))⟩
theorem QQ.m1 (h : QQ B m m') (hB : B + 39 < 2 ^ 31) (ht : ix (m 0 0 3) < 13000) : QQ (B + 39) (M1 m) (M1 m') ∧ ix (M1 m 0 0 3) = ix (m 0 0 3) + 1 := by
  have e3 := h.2.2.2.2.c (z := 3) (by decide)
  have a := h.wt (by omega)
  have b := a.1.rc (by omega)
  have c := b.1.pb (by omega)
  have d := c.1.tw (by omega)
  obtain ⟨⟨μ, r⟩, ⟨ν, r'⟩, -⟩ := h
  have w := m1_ok r hB ht
  have w' := m1_ok r' hB (by rw [e3]; exact ht)
  have vm := r.1.2.mi
  have tw := (cm_tw d.1.2.2.2.2).wF (k := 3) (v := x_X1_countMinutes (x_X1_tow (x_X1_pushBack (x_X1_receive (x_X1_workTugs m)))) 1 0 0 3 + 1) (by decide)
  refine ⟨⟨⟨_, w.1⟩, ⟨_, w'.1⟩, ?_, ?_, ?_⟩, ?_⟩
  · exact (cm_gx d.1.2.2.1 d.1.1.iN).minute
  · exact (cm_gx d.1.2.2.2.1 d.1.2.1.iN).minute
  · unfold M1
    rw [(cm_tw d.1.2.2.2.2).c (z := 3) (by decide)]
    exact tw
  · rw [w.2.2, show m 0 0 3 + 1 = nI (ix (m 0 0 3) + 1) by rw [← nI_1, ← vm.1], ix_nI (by omega)]
theorem QQ.mk (h : QQ B m m') : ∀ k, B + 39 * k < 2 ^ 31 → ix (m 0 0 3) + k ≤ 13000 → QQ (B + 39 * k) (MK1 k m) (MK1 k m') ∧ ix (MK1 k m 0 0 3) = ix (m 0 0 3) + k
  | 0, _, _ => ⟨h, rfl⟩
  | k + 1, hB, ht => by
    have q := QQ.mk h k (by omega) (by omega)
    have w := q.1.m1 (by omega) (by omega)
    rw [mk1_s, mk1_s]
    exact ⟨w.1.mono (by omega), by rw [w.2]; omega⟩
theorem co_tw (h : TWN m m') : x_X1_countAt m' w = x_X1_countAt m w := by
  rw [x_X1_countAt_eq]
  unfold y_X1_countAt
  rw [lf_X1_countAt_4_eq]
  unfold ly_X1_countAt_4
  rw [h.c (z := 2) (by decide)]
  exact itr_cg (fun j c hj => by
    show bd_X1_countAt_4 m' w j c = bd_X1_countAt_4 m w j c
    unfold bd_X1_countAt_4
    rw [h.a hj (by decide) (by decide)])
theorem gone_tw (h : TWN m m') : x_X1_areAllGone m' = x_X1_areAllGone m := by
  rw [x_X1_areAllGone_eq]
  unfold y_X1_areAllGone
  rw [co_tw h, h.c (z := 2) (by decide)]
end CMT
