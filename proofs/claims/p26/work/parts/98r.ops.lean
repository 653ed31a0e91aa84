/-! counting places; who is gone stays gone; the calls that change something -/
def cnt (m : Mem) (w : Int32) : Nat → Nat
  | 0 => 0
  | N + 1 => cnt m w N + if m 3 N 5 = w then 1 else 0
section OPS
variable {m m' n n' s : Mem} {S T S' T' : Sys} {μ ν : Mem} {w v d c a b p1 p2 p3 p4 : Int32} {B B' P j p q k t i K N f : Nat}
theorem cnt_le : ∀ N, cnt m w N ≤ N
  | 0 => Nat.le_refl 0
  | N + 1 => by
    have := cnt_le N
    show cnt m w N + (if m 3 N 5 = w then 1 else 0) ≤ N + 1
    split <;> omega
theorem cnt_of (hN : ix (m 0 0 2) ≤ 12) : x_X1_countAt m w = nI (cnt m w (ix (m 0 0 2))) := by
  rw [x_X1_countAt_eq]
  unfold y_X1_countAt
  rw [lf_X1_countAt_4_eq]
  unfold ly_X1_countAt_4
  refine itr_inv (n := ix (m 0 0 2)) (s := (0 : Int32)) (P := fun i c => c = nI (cnt m w i)) (fun jz s => bd_X1_countAt_4 m w jz s) (fun i c hi g => ?_) rfl
  subst g
  show bd_X1_countAt_4 m w i (nI (cnt m w i)) = nI (cnt m w i + if m 3 i 5 = w then 1 else 0)
  unfold bd_X1_countAt_4
  by_cases e : m 3 i 5 = w
  · rw [if_pos e, if_pos e, nI_1]
  · rw [if_neg e, if_neg e]
    rfl
theorem cnt_all : ∀ N, cnt m w N = N ↔ ∀ p, p < N → m 3 p 5 = w
  | 0 => ⟨fun _ p hp => absurd hp (Nat.not_lt_zero p), fun _ => rfl⟩
  | N + 1 => by
    have l := cnt_le (m := m) (w := w) N
    have ih := cnt_all N
    show cnt m w N + (if m 3 N 5 = w then 1 else 0) = N + 1 ↔ _
    constructor
    · intro h
      by_cases e : m 3 N 5 = w
      · rw [if_pos e] at h
        have := ih.mp (by omega)
        intro p hp
        rcases Nat.lt_or_ge p N with y | y
        · exact this p y
        · have : p = N := by omega
          subst this
          exact e
      · rw [if_neg e] at h
        omega
    · intro h
      rw [if_pos (h N (Nat.lt_succ_self N)), ih.mpr (fun p hp => h p (by omega))]
theorem cnt_mono : ∀ N, (∀ p, p < N → m 3 p 5 = w → n 3 p 5 = w) → cnt m w N ≤ cnt n w N
  | 0, _ => Nat.le_refl 0
  | N + 1, h => by
    have := cnt_mono N (fun p hp => h p (by omega))
    show cnt m w N + (if m 3 N 5 = w then 1 else 0) ≤ cnt n w N + (if n 3 N 5 = w then 1 else 0)
    by_cases e : m 3 N 5 = w
    · rw [if_pos e, if_pos (h N (Nat.lt_succ_self N) e)]
      omega
    · rw [if_neg e]
      omega
theorem gone_iff (hI : IN m) : x_X1_areAllGone m = true ↔ ∀ p, p < ix (m 0 0 2) → m 3 p 5 = 5 := by
  have b := hI.na.2
  have l := cnt_le (m := m) (w := 5) (ix (m 0 0 2))
  rw [x_X1_areAllGone_eq]
  unfold y_X1_areAllGone
  rw [cnt_of b, ← cnt_all]
  have e : nI (cnt m 5 (ix (m 0 0 2))) = m 0 0 2 ↔ cnt m 5 (ix (m 0 0 2)) = ix (m 0 0 2) := by
    constructor
    · intro h
      exact nI_inj (by omega) (by omega) (h.trans hI.na.1)
    · intro h
      rw [h, ← hI.na.1]
  by_cases g : nI (cnt m 5 (ix (m 0 0 2))) = m 0 0 2
  · rw [if_pos g]
    exact ⟨fun _ => e.mp g, fun _ => rfl⟩
  · rw [if_neg g]
    exact ⟨fun z => Bool.noConfusion z, fun z => absurd (e.mpr z) g⟩
/-! gone stays gone -/
theorem go_rc (h : m 3 p 5 = 5) : x_X1_receive m 3 p 5 = 5 := by
  rw [x_X1_receive_eq]
  unfold y_X1_receive
  rw [lf_X1_receive_2_eq]
  unfold ly_X1_receive_2
  refine itr_inv (n := ix (m 0 0 2)) (s := m) (P := fun _ (s : Mem) => s 3 p 5 = 5) (fun jz s => bd_X1_receive_2 jz s) (fun j s hj g => ?_) h
  show bd_X1_receive_2 j s 3 p 5 = 5
  unfold bd_X1_receive_2
  by_cases h1 : s 3 j 5 = 0
  · have e : p ≠ j := fun e => by
      subst e
      rw [g] at h1
      exact absurd h1 (by decide)
    rw [if_pos h1]
    split
    · exact g
    · split
      · rw [put_f (by decide), bu_k (by decide), up3_ne (by omega)]
        exact g
      · rw [put_f (by decide), up3_ne (by omega), up3_ne (by omega), up3_ne (by omega)]
        exact g
  · rw [if_neg h1]
    exact g
theorem go_tw (h : m 3 p 5 = 5) : x_X1_tow m 3 p 5 = 5 := by
  rw [x_X1_tow_eq]
  unfold y_X1_tow
  rw [lf_X1_tow_2_eq]
  unfold ly_X1_tow_2
  refine itr_inv (n := ix (m 0 0 2)) (s := m) (P := fun _ (s : Mem) => s 3 p 5 = 5) (fun jz s => bd_X1_tow_2 jz s) (fun j s hj g => ?_) h
  show bd_X1_tow_2 j s 3 p 5 = 5
  unfold bd_X1_tow_2
  by_cases h1 : s 3 j 5 = 2
  · have e : p ≠ j := fun e => by
      subst e
      rw [g] at h1
      exact absurd h1 (by decide)
    rw [if_pos h1]
    split
    · split
      · exact g
      · split
        · exact g
        · rw [put_f (by decide), up3_fam (by decide), tk_f (by decide), up3_ne (by omega), up3_ne (by omega), up3_ne (by omega)]
          exact g
    · exact g
  · rw [if_neg h1]
    exact g
theorem go_pb (r0 : RX B m) (hB : B + 12 < 2 ^ 31) (h : m 3 p 5 = 5) : x_X1_pushBack m 3 p 5 = 5 := by
  have ba := r0.iN.na.2
  rw [x_X1_pushBack_eq]
  unfold y_X1_pushBack
  rw [lf_X1_pushBack_4_eq]
  unfold ly_X1_pushBack_4
  have q := itr_inv (n := ix (m 0 0 2)) (s := (m, (-1 : Int32))) (P := fun i (s : Mem × Int32) => RX (B + i) s.1 ∧ s.1 0 = m 0 ∧ (∃ lo, LW s.2 lo) ∧ s.1 3 p 5 = 5) (fun jz s => bd_X1_pushBack_4 jz s.1 s.2) (fun i s hi g => ?_) ⟨r0, rfl, ⟨0, Or.inl ⟨rfl, rfl⟩⟩, h⟩
  · exact q.2.2.2
  · obtain ⟨x, w⟩ := s
    obtain ⟨r, z, ⟨lo, hlo⟩, g⟩ := g
    have r : RX (B + i) x := r
    have z : x 0 = m 0 := z
    have hlo : LW w lo := hlo
    have g : x 3 p 5 = 5 := g
    show RX (B + (i + 1)) (bd_X1_pushBack_4 i x w).1 ∧ (bd_X1_pushBack_4 i x w).1 0 = m 0 ∧ (∃ lo, LW (bd_X1_pushBack_4 i x w).2 lo) ∧ (bd_X1_pushBack_4 i x w).1 3 p 5 = 5
    unfold bd_X1_pushBack_4
    rcases nl_ok r.iN hlo with ⟨e, -⟩ | ⟨q, hq, e, -⟩
    · rw [if_pos e]
      exact ⟨r.mono (by omega), z, ⟨lo, hlo⟩, g⟩
    · have hq12 : q < 12 := by rw [z] at hq; omega
      rw [if_neg (by rw [e]; exact nI_n1 (by omega)), e, ix_nI (by omega)]
      by_cases c : x_X1_reason x q = 0
      · rw [if_pos c]
        have f := bp_fr c hq12
        have R := r.bp (by omega) hq c
        have hq2 : q < ix (x_X1_beginPush x q 0 0 2) := by rw [f.1]; exact hq
        refine ⟨R, f.1.trans z, ⟨_, Or.inr ⟨_, tn_ky R.iN hq2, rfl, (ky_lt R.iN hq2).1⟩⟩, ?_⟩
        have ne : p ≠ q := fun e => by
          subst e
          have := (re0 c).1
          rw [g] at this
          exact absurd this (by decide)
        show x_X1_beginPush x q 3 p 5 = 5
        rw [f.2.1 p ne]
        exact g
      · rw [if_neg c]
        exact ⟨r.mono (by omega), z, ⟨_, Or.inr ⟨_, tn_ky r.iN hq, rfl, (ky_lt r.iN hq).1⟩⟩, g⟩
theorem go_m1 (h : QQ B m m') (hB : B + 39 < 2 ^ 31) (hp : p < ix (m 0 0 2)) (g : m 3 p 5 = 5) : M1 m 3 p 5 = 5 := by
  have a := h.wt (by omega)
  have b := a.1.rc (by omega)
  have w := wt_form h.1.iN h.2.2.1.1
  have nf : ¬ FN (ix (m 0 0 1)) m p := fun ⟨t, ht, _, e⟩ => by
    have := ((h.2.2.1.1.2.2.2.1 t ht).2 p hp e).1
    rw [g] at this
    exact absurd this (by decide)
  have g1 : x_X1_workTugs m 3 p 5 = 5 := ((w.2.2.2.2.2.1 p hp).2 nf).1.trans g
  unfold M1
  rw [up3_ne (by omega), cm_at (by omega) (by omega)]
  exact go_tw (go_pb b.1.1 (by omega) (go_rc g1))
theorem mk_na (h : RX B m) (hB : B + 39 * k < 2 ^ 31) (ht : ix (m 0 0 3) + k ≤ 13000) : ∀ z, z ≠ 3 → MK1 k m 0 0 z = m 0 0 z := h.elim fun _ r => (mk_ok r k hB ht).2.1
theorem go_mk (h : QQ B m m') (hp : p < ix (m 0 0 2)) (g : m 3 p 5 = 5) : ∀ k, B + 39 * k < 2 ^ 31 → ix (m 0 0 3) + k ≤ 13000 → MK1 k m 3 p 5 = 5
  | 0, _, _ => g
  | k + 1, hB, ht => by
    have q := h.mk k (by omega) (by omega)
    rw [mk1_s]
    refine go_m1 q.1 (by omega) ?_ (go_mk h hp g k (by omega) (by omega))
    rw [mk_na h.1 (by omega) (by omega) 2 (by decide)]
    exact hp
/-! the calls -/
theorem GX.fld (h : GX m) (hk : 3 ≤ k) : GX (up3 m 0 0 k v) := by
  have e : ∀ f, f ≠ 0 → up3 m 0 0 k v f = m f := fun f hf => up3_fam hf
  have e0 : ∀ z, z < 3 → up3 m 0 0 k v 0 0 z = m 0 0 z := fun z hz => up3_ne (by omega)
  exact ⟨h.1.cg e0 (fun j z _ => by rw [e 1 (by decide)]) (e 2 (by decide)) (fun p z _ => by rw [e 3 (by decide)]), h.2.1.up (Or.inr (Or.inr (Or.inr ⟨rfl, hk⟩))), h.2.2.up (Or.inr (Or.inr (Or.inr ⟨rfl, by omega⟩)))⟩
theorem LI.sv (h : LI B S T) : x_X6_save S 1 = S 1 ∧ x_X6_save T 1 = T 1 := ⟨sv_u (Or.inl rfl) h.k1.2.1 h.k1.1, sv_u (Or.inl rfl) h.k2.2.1 h.k2.1⟩
theorem LI.cur (h : LI B S T) (ha : ¬ x_X6_isOutside a 0 1440 = true) (hb : ¬ x_X6_isOutside b 0 1440 = true) : ∃ v, (x_X6_setCurfew S a b).2 = .inl v ∧ (x_X6_setCurfew T a b).2 = .inl v ∧ LI B (x_X6_setCurfew S a b).1 (x_X6_setCurfew T a b).1 ∧ (x_X6_setCurfew S a b).1 1 0 0 3 = S 1 0 0 3 := by
  have bd := h.bd
  have s := h.sv
  have of : ∀ S : Sys, x_X6_save S 1 = S 1 → (x_X6_setCurfew S a b).2 = .inl (if 0 < (b - a) then (b - a) else 0) ∧ (x_X6_setCurfew S a b).1 1 = up3 (up3 (S 1) 0 0 4 a) 0 0 5 b := fun S e => by
    rw [x_X6_setCurfew_eq]
    unfold y_X6_setCurfew
    rw [if_neg ha, if_neg hb]
    refine ⟨rfl, ?_⟩
    dsimp only
    rw [us_same, us_same, e]
  have o1 := of S s.1
  have o2 := of T s.2
  obtain ⟨⟨μ, x⟩, ⟨ν, y⟩, g, g', t⟩ := h
  have x' := (call_setCurfew (p1 := a) (p2 := b) x (Nat.le_refl B) bd).2
  have y' := (call_setCurfew (p1 := a) (p2 := b) y (Nat.le_refl B) bd).2
  rw [o1.1] at x'
  rw [o2.1] at y'
  refine ⟨_, o1.1, o2.1, ⟨⟨_, x'⟩, ⟨_, y'⟩, ?_, ?_, ?_⟩, ?_⟩
  · rw [o1.2]
    exact (g.fld (by decide)).fld (by decide)
  · rw [o2.2]
    exact (g'.fld (by decide)).fld (by decide)
  · rw [o1.2, o2.2]
    exact (t.wF (by decide)).wF (by decide)
  · rw [o1.2, up3_ne (by omega), up3_ne (by omega)]
theorem GX.add (h : GX m) (hI : IN m) (h12 : m 0 0 2 < 12) (hn : ix (m 0 0 2) < 12) : GX (x_X1_add m p1 p2 p3 p4) := by
  obtain ⟨N, hN⟩ : ∃ N, ix (m 0 0 2) = N := ⟨_, rfl⟩
  obtain ⟨a1, a2, a3, a4, -, a5, a6, a7, a8, -⟩ := adc (p1 := p1) (p2 := p2) (p3 := p3) (p4 := p4) hN h12
  obtain ⟨⟨gS, gN, gD, gT, gU⟩, gM, gd⟩ := h
  have bs := hI.ns.2
  have e2 : ix (x_X1_add m p1 p2 p3 p4 0 0 2) = N + 1 := by
    rw [a3, hI.na.1, nI_1, ix_nI (by omega), hN]
  have f1 : x_X1_add m p1 p2 p3 p4 1 = m 1 := a1 1 (by decide) (by decide)
  have f2 : x_X1_add m p1 p2 p3 p4 2 = m 2 := a1 2 (by decide) (by decide)
  have c0 : x_X1_add m p1 p2 p3 p4 0 0 0 = m 0 0 0 := a2 0 (by decide)
  have c1 : x_X1_add m p1 p2 p3 p4 0 0 1 = m 0 0 1 := a2 1 (by decide)
  have lst : ∀ p, p < N + 1 → p < N ∨ p = N := fun p hp => by omega
  have nn : ∀ p, p < N → p ≠ N := fun p hp => by omega
  have pf : ∀ i, i < ix (m 0 0 0) → PF (x_X1_add m p1 p2 p3 p4) i → PF m i := fun i hi z => by
    unfold PF at z ⊢
    rw [f1] at z
    obtain ⟨p, hp, ep⟩ := (hI.st hi).resolve_left z.1
    rw [ep, ix_nI (by omega)] at z ⊢
    rw [a4 p (nn p (by omega))] at z
    exact z
  refine ⟨?_, ?_, ?_⟩
  · unfold GS
    rw [e2, c0, c1, f1, f2]
    refine ⟨fun i p hi hp hh e => ?_, fun i hi z => gN i hi ⟨pf i (by omega) z.1, pf (i + 1) hi z.2⟩, fun p hp => ?_, fun t ht => ⟨(gT t ht).1, fun p hp e => ?_⟩, gU⟩
    · rcases lst p hp with l | l
      · rw [a4 p (nn p l)] at hh e ⊢
        exact gS i p hi (by omega) hh e
      · subst l
        rw [a5] at hh
        exact absurd rfl (hp_n hh).1
    · rcases lst p hp with l | l
      · rw [a4 p (nn p l)]
        exact gD p (by omega)
      · subst l
        rw [a5, a7]
        exact ⟨fun z => absurd z (by decide), fun _ => rfl⟩
    · rcases lst p hp with l | l
      · rw [a4 p (nn p l)]
        exact (gT t ht).2 p (by omega) e
      · subst l
        rcases (hI.2.2.1 t ht).1 with z | ⟨q, hq, z⟩
        · rw [z] at e
          exact absurd e.symm (nI_n1 (by omega))
        · rw [z] at e
          have := nI_inj (by omega) (by omega) e
          omega
  · unfold SM at gM ⊢
    rw [e2, c0, f1]
    show isum (fun p => x_X1_add m p1 p2 p3 p4 3 p 8) N + x_X1_add m p1 p2 p3 p4 3 N 8 = _
    rw [a8, isum_cg (g := fun p => m 3 p 8) N (fun p hp => by rw [a4 p (nn p hp)]), ← gM, hN]
    simp
  · unfold DS
    rw [c0, c1, f1, f2]
    exact gd
theorem TWN.add (h : TWN m m') (hI : IN m) (h12 : m 0 0 2 < 12) (hn : ix (m 0 0 2) < 12) : TWN (x_X1_add m p1 p2 p3 p4) (x_X1_add m' p1 p2 p3 p4) := by
  obtain ⟨N, hN⟩ : ∃ N, ix (m 0 0 2) = N := ⟨_, rfl⟩
  have d2 := h.c (z := 2) (by decide)
  have a := adc (p1 := p1) (p2 := p2) (p3 := p3) (p4 := p4) hN h12
  have a' := adc (p1 := p1) (p2 := p2) (p3 := p3) (p4 := p4) (u := m') (N := N) (by rw [d2]; exact hN) (by rw [d2]; exact h12)
  obtain ⟨a1, a2, a3, a4, ⟨b0, b1, b2, b3, b4⟩, a5, a6, a7, a8, a9⟩ := a
  obtain ⟨x1, x2, x3, x4, ⟨y0, y1, y2, y3, y4⟩, x5, x6, x7, x8, x9⟩ := a'
  have e2 : ix (x_X1_add m p1 p2 p3 p4 0 0 2) = N + 1 := by
    rw [a3, hI.na.1, nI_1, ix_nI (by omega), hN]
  refine ⟨fun z hz => ?_, ?_, fun j k hj hk => ?_, fun t k ht hk => ?_, fun p k hp hk => ?_, ?_⟩
  · by_cases e : z = 2
    · subst e
      rw [a3, x3, d2]
    · rw [a2 z e, x2 z e]
      exact h.1 z hz
  · rw [a2 0 (by decide), a2 1 (by decide)]
    exact h.2.1
  · rw [a1 1 (by decide) (by decide), x1 1 (by decide) (by decide)]
    exact h.s hj hk
  · rw [a1 2 (by decide) (by decide), x1 2 (by decide) (by decide)]
    exact h.u ht hk
  · rw [e2] at hp
    by_cases e : p = N
    · subst e
      match k, hk with
      | 0, _ => rw [if_neg (by decide), b0, y0]
      | 1, _ => rw [if_neg (by decide), b1, y1]
      | 2, _ => rw [if_neg (by decide), b2, y2]
      | 3, _ => rw [if_neg (by decide), b3, y3]
      | 4, _ => rw [if_neg (by decide), b4, y4]
      | 5, _ => rw [if_neg (by decide), a5, x5]
      | 6, _ => rw [if_pos rfl, a6, x6]; rfl
      | 7, _ => rw [if_neg (by decide), a7, x7]
      | 8, _ => rw [if_neg (by decide), a8, x8]
      | 9, _ => rw [if_neg (by decide), a9, x9]
    · rw [a4 p e, x4 p e]
      exact h.2.2.2.2.1 p k (by omega) hk
  · rw [a1 4 (by decide) (by decide), x1 4 (by decide) (by decide)]
    exact h.l
theorem LI.exp (h : LI B S T) (h1 : x_X6_isKind p1 = true) (h2 : ¬ x_X6_isOutside p2 0 1999 = true) (h3 : p2 < p3) (h4 : ¬ 1999 < p3) (h5 : ¬ x_X6_isOutside p4 0 400 = true) (h12 : S 1 0 0 2 < 12) (hn : ix (S 1 0 0 2) < 12) : ∃ v, (x_X6_expect S p1 p2 p3 p4).2 = .inl v ∧ (x_X6_expect T p1 p2 p3 p4).2 = .inl v ∧ LI B (x_X6_expect S p1 p2 p3 p4).1 (x_X6_expect T p1 p2 p3 p4).1 ∧ (x_X6_expect S p1 p2 p3 p4).1 1 0 0 3 = S 1 0 0 3 := by
  have bd := h.bd
  have s := h.sv
  have d2 := h.2.2.2.2.c (z := 2) (by decide)
  have of : ∀ S : Sys, x_X6_save S 1 = S 1 → S 1 0 0 2 < 12 → (x_X6_expect S p1 p2 p3 p4).2 = .inl (S 1 0 0 2) ∧ (x_X6_expect S p1 p2 p3 p4).1 1 = x_X1_add (S 1) p1 p2 p3 p4 := fun S e l => by
    rw [x_X6_expect_eq]
    unfold y_X6_expect
    rw [if_pos h1, if_neg h2, if_pos h3, if_neg h4, if_neg h5, if_pos l]
    refine ⟨rfl, ?_⟩
    dsimp only
    rw [us_same, e]
  have o1 := of S s.1 h12
  have o2 := of T s.2 (by rw [d2]; exact h12)
  have i1 := h.i1
  have i2 := h.i2
  obtain ⟨⟨μ, x⟩, ⟨ν, y⟩, g, g', t⟩ := h
  have x' := (call_expect (p1 := p1) (p2 := p2) (p3 := p3) (p4 := p4) x (Nat.le_refl B) bd).2
  have y' := (call_expect (p1 := p1) (p2 := p2) (p3 := p3) (p4 := p4) y (Nat.le_refl B) bd).2
  rw [o1.1] at x'
  rw [o2.1] at y'
  refine ⟨_, o1.1, by rw [o2.1, d2], ⟨⟨_, x'⟩, ⟨_, y'⟩, ?_, ?_, ?_⟩, ?_⟩
  · rw [o1.2]
    exact g.add i1 h12 hn
  · rw [o2.2]
    exact g'.add i2 (by rw [d2]; exact h12) (by rw [d2]; exact hn)
  · rw [o1.2, o2.2]
    exact t.add i1 h12 hn
  · rw [o1.2]
    exact (adc rfl h12).2.1 3 (by decide)
theorem has_A' (hI : IN m) (hq : q < ix (m 0 0 2)) : x_X1_hasAircraft m (nI q) = true := by
  have := hI.na.2
  rw [x_X1_hasAircraft_eq]
  unfold y_X1_hasAircraft
  rw [if_neg (nI_pos (by omega)), if_pos (by rw [hI.na.1]; exact nI_lt (by omega) (by omega))]
theorem LI.lea (h : LI B S T) (hq : q < ix (S 1 0 0 2)) (h1 : S 1 3 q 2 < v) (h2 : ¬ 1999 < v) (h4 : ¬ S 1 3 q 5 = 4) (h5 : ¬ S 1 3 q 5 = 5) : ∃ w, (x_X6_setLeaves S (nI q) v).2 = .inl w ∧ (x_X6_setLeaves T (nI q) v).2 = .inl w ∧ LI B (x_X6_setLeaves S (nI q) v).1 (x_X6_setLeaves T (nI q) v).1 ∧ (x_X6_setLeaves S (nI q) v).1 1 0 0 3 = S 1 0 0 3 := by
  have bd := h.bd
  have s := h.sv
  have d2 := h.2.2.2.2.c (z := 2) (by decide)
  have ba := h.i1.na.2
  have xq : ix (nI q) = q := ix_nI (by omega)
  have t0 := h.2.2.2.2
  have of : ∀ S : Sys, x_X6_save S 1 = S 1 → x_X1_hasAircraft (S 1) (nI q) = true → S 1 3 q 2 < v → ¬ S 1 3 q 5 = 4 → ¬ S 1 3 q 5 = 5 → (x_X6_setLeaves S (nI q) v).2 = .inl (S 1 3 q 3) ∧ (x_X6_setLeaves S (nI q) v).1 1 = up3 (S 1) 3 q 3 v := fun S e l l1 l4 l5 => by
    rw [x_X6_setLeaves_eq]
    unfold y_X6_setLeaves
    rw [xq, if_pos l, if_pos l1, if_neg h2, if_neg l4, if_neg l5]
    refine ⟨rfl, ?_⟩
    dsimp only
    rw [us_same, e]
  have o1 := of S s.1 (has_A' h.i1 hq) h1 h4 h5
  have o2 := of T s.2 (has_A' h.i2 (by rw [d2]; exact hq)) (by rw [t0.a hq (by decide) (by decide)]; exact h1) (by rw [t0.a hq (by decide) (by decide)]; exact h4) (by rw [t0.a hq (by decide) (by decide)]; exact h5)
  obtain ⟨⟨μ, x⟩, ⟨ν, y⟩, g, g', t⟩ := h
  have x' := (call_setLeaves (p1 := nI q) (p2 := v) x (Nat.le_refl B) bd).2
  have y' := (call_setLeaves (p1 := nI q) (p2 := v) y (Nat.le_refl B) bd).2
  rw [o1.1] at x'
  rw [o2.1] at y'
  refine ⟨_, o1.1, by rw [o2.1, t.a hq (by decide) (by decide)], ⟨⟨_, x'⟩, ⟨_, y'⟩, ?_, ?_, ?_⟩, ?_⟩
  · rw [o1.2]
    exact ⟨g.1.upA (by decide), g.2.1.up (Or.inl ⟨rfl, by decide⟩), g.2.2.up (Or.inl rfl)⟩
  · rw [o2.2]
    exact ⟨g'.1.upA (by decide), g'.2.1.up (Or.inl ⟨rfl, by decide⟩), g'.2.2.up (Or.inl rfl)⟩
  · rw [o1.2, o2.2]
    exact t.wA (by decide)
  · rw [o1.2, up3_ne (by omega)]
theorem pass_of (h : RX B (S 1)) (hs : x_X6_save S 1 = S 1) (hP : 1 ≤ P) (hP5 : P ≤ 500) (hB : B + 39 * P + 39 < 2 ^ 31) (ht : ix (S 1 0 0 3) + P ≤ 10000) : (x_X6_pass S (nI P)).2 = .inl (x_X1_countAt (MK1 P (S 1)) 5 - x_X1_countAt (S 1) 5) ∧ (x_X6_pass S (nI P)).1 1 = MK1 P (S 1) ∧ ∀ u, u ≠ 1 → (x_X6_pass S (nI P)).1 u = x_X6_save S u := by
  obtain ⟨μ, r⟩ := h
  have c0 : ¬ x_X6_isOutside (nI P) 1 500 = true := by
    rw [x_X6_isOutside_eq]
    unfold y_X6_isOutside
    rw [if_neg (show ¬ nI P < 1 from nI_nlt (b := 1) hP (by omega)), if_neg (show ¬ 500 < nI P from nI_nlt (a := 500) hP5 (by decide))]
    exact fun z => Bool.noConfusion z
  have vm := r.1.2.mi
  have c1 : ¬ 10000 < S 1 0 0 3 + nI P := by
    rw [vm.1, nI_add]
    exact nI_nlt (a := 10000) (b := ix (S 1 0 0 3) + P) ht (by decide)
  have e := pass_c (S := x_X6_save S) (v := x_X1_countAt (x_X6_save S 1) 5) hP5 r hs hB (by omega)
  rw [x_X6_pass_eq]
  unfold y_X6_pass
  rw [if_neg c0, if_neg c1, ix_nI (by omega), e]
  dsimp only
  rw [us_same, hs]
  exact ⟨rfl, rfl, fun u hu => us_ne hu⟩
theorem LI.pas (h : LI B S T) (hP : 1 ≤ P) (hP5 : P ≤ 500) (ht : ix (S 1 0 0 3) + P ≤ 10000) (hb : B + 19600 ≤ B') (hB : B' + 200000 < 2147483648) : ∃ v, (x_X6_pass S (nI P)).2 = .inl v ∧ (x_X6_pass T (nI P)).2 = .inl v ∧ ¬ v < 0 ∧ LI B' (x_X6_pass S (nI P)).1 (x_X6_pass T (nI P)).1 ∧ ix ((x_X6_pass S (nI P)).1 1 0 0 3) = ix (S 1 0 0 3) + P := by
  have s := h.sv
  have d3 := h.2.2.2.2.c (z := 3) (by decide)
  have mk := h.qq.mk P (by omega) (by omega)
  have o1 := pass_of h.qq.1 s.1 hP hP5 (by omega) ht
  have o2 := pass_of h.qq.2.1 s.2 hP hP5 (by omega) (by rw [d3]; exact ht)
  have qq := h.qq
  have i1 := h.i1
  have ba := i1.na.2
  have e2 := mk_na (k := P) qq.1 (by omega) (by omega) 2 (by decide)
  have le := cnt_mono (m := S 1) (n := MK1 P (S 1)) (w := 5) (ix (S 1 0 0 2)) (fun p hp g => go_mk qq hp g P (by omega) (by omega))
  have l2 := cnt_le (m := MK1 P (S 1)) (w := 5) (ix (S 1 0 0 2))
  obtain ⟨⟨μ, x⟩, ⟨ν, y⟩, g, g', t⟩ := h
  have x' := (call_pass (p1 := nI P) x hb hB).2
  have y' := (call_pass (p1 := nI P) y hb hB).2
  rw [o1.1] at x'
  rw [o2.1] at y'
  refine ⟨_, o1.1, by rw [o2.1, co_tw mk.1.2.2.2.2, co_tw t], ?_, ⟨⟨_, x'⟩, ⟨_, y'⟩, ?_⟩, ?_⟩
  · rw [cnt_of (m := MK1 P (S 1)) (by rw [e2]; exact ba), cnt_of ba, e2, pk_sub le]
    exact nI_pos (by omega)
  · rw [o1.2.1, o2.2.1]
    exact mk.1.2.2
  · rw [o1.2.1]
    exact mk.2
end OPS
