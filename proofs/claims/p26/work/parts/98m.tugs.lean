/-! the tugs' step, told at once: in whichever order they are looked at -/
def dn (m : Mem) (t : Nat) : Prop := ¬ m 2 t 1 = -1 ∧ m 2 t 2 - 1 = 0
def FN (K : Nat) (m : Mem) (p : Nat) : Prop := ∃ t, t < K ∧ dn m t ∧ m 2 t 1 = nI p
def CN (K : Nat) (m : Mem) (j : Nat) : Prop := ∃ p, p < ix (m 0 0 2) ∧ FN K m p ∧ m 1 j 1 = nI p ∧ ¬ m 3 p 5 = 3
def d1 (m : Mem) (t : Nat) : Int32 := if ¬ m 2 t 1 = -1 ∧ m 2 t 2 - 1 = 0 then 1 else 0
def dc (m : Mem) : Nat → Int32
  | 0 => 0
  | N + 1 => dc m N + d1 m N
def WF (K : Nat) (m s : Mem) : Prop :=
  s 0 = m 0 ∧ (∀ t k, k ≠ 1 → k ≠ 2 → s 2 t k = m 2 t k) ∧
  (∀ t, t < K → ((dn m t → s 2 t 1 = -1) ∧ (¬ dn m t → s 2 t 1 = m 2 t 1)) ∧ (m 2 t 1 = -1 → s 2 t 2 = m 2 t 2) ∧ (¬ m 2 t 1 = -1 → s 2 t 2 = m 2 t 2 - 1)) ∧
  (∀ t, K ≤ t → s 2 t = m 2 t) ∧ (∀ p k, k ≠ 5 → k ≠ 6 → s 3 p k = m 3 p k) ∧
  (∀ p, p < ix (m 0 0 2) → (FN K m p → s 3 p 5 = (if m 3 p 5 = 3 then 1 else 5) ∧ s 3 p 6 = (if m 3 p 5 = 3 then m 3 p 6 else -1)) ∧ (¬ FN K m p → s 3 p 5 = m 3 p 5 ∧ s 3 p 6 = m 3 p 6)) ∧
  (∀ j k, k ≠ 1 → s 1 j k = m 1 j k) ∧ (∀ j, j < ix (m 0 0 0) → (CN K m j → s 1 j 1 = -1) ∧ (¬ CN K m j → s 1 j 1 = m 1 j 1)) ∧ s 4 0 0 = m 4 0 0 + dc m K
section TUG
variable {m m' s : Mem} {w v : Int32} {j p q k t i K : Nat}
theorem fin_form : (∀ f, f = 0 ∨ f = 2 → x_X1_finish m q f = m f) ∧ (∀ p k, k ≠ 5 → k ≠ 6 → x_X1_finish m q 3 p k = m 3 p k) ∧ (∀ p, p ≠ q → x_X1_finish m q 3 p = m 3 p) ∧ x_X1_finish m q 3 q 5 = (if m 3 q 5 = 3 then 1 else 5) ∧ x_X1_finish m q 3 q 6 = (if m 3 q 5 = 3 then m 3 q 6 else -1) ∧ (∀ j k, k ≠ 1 → x_X1_finish m q 1 j k = m 1 j k) ∧ (∀ j, x_X1_finish m q 1 j 1 = if ¬ m 3 q 5 = 3 ∧ ¬ m 3 q 6 = -1 ∧ j = ix (m 3 q 6) then -1 else m 1 j 1) ∧ x_X1_finish m q 4 0 0 = m 4 0 0 + 1 := by
  rw [x_X1_finish_eq]
  unfold y_X1_finish
  by_cases h3 : m 3 q 5 = 3
  · rw [if_pos h3, if_pos h3, if_pos h3]
    refine ⟨fun f hf => ?_, fun p k h5 h6 => ?_, fun p hp => ?_, ?_, ?_, fun j k hk => ?_, fun j => ?_, ?_⟩
    · rw [put_f (by omega), up3_fam (by omega)]
    · rw [put_f (by decide), up3_ne (by omega)]
    · rw [put_f (by decide), up3_rows (by omega)]
    · rw [put_f (by decide), up3_self]
    · rw [put_f (by decide), up3_ne (by omega)]
    · rw [put_f (by decide), up3_ne (by omega)]
    · rw [put_f (by decide), up3_ne (by omega), if_neg (fun z => z.1 h3)]
    · rw [put_4, up3_ne (by omega)]
  · rw [if_neg h3, if_neg h3, if_neg h3]
    have e6 : up3 m 3 q 5 5 3 q 6 = m 3 q 6 := up3_ne (by omega)
    rw [e6]
    by_cases h6 : m 3 q 6 = -1
    · rw [if_pos h6]
      refine ⟨fun f hf => ?_, fun p k h5 h6 => ?_, fun p hp => ?_, ?_, ?_, fun j k hk => ?_, fun j => ?_, ?_⟩
      · rw [put_f (by omega), up3_fam (by omega)]
      · rw [put_f (by decide), up3_ne (by omega)]
      · rw [put_f (by decide), up3_rows (by omega)]
      · rw [put_f (by decide), up3_self]
      · rw [put_f (by decide), e6, h6]
      · rw [put_f (by decide), up3_ne (by omega)]
      · rw [put_f (by decide), up3_ne (by omega), if_neg (fun z => z.2.1 h6)]
      · rw [put_4, up3_ne (by omega)]
    · rw [if_neg h6]
      refine ⟨fun f hf => ?_, fun p k h5 h6 => ?_, fun p hp => ?_, ?_, ?_, fun j k hk => ?_, fun j => ?_, ?_⟩
      · rw [put_f (by omega), up3_fam (by omega), up3_fam (by omega), up3_fam (by omega)]
      · rw [put_f (by decide), up3_ne (by omega), up3_ne (by omega), up3_ne (by omega)]
      · rw [put_f (by decide), up3_rows (by omega), up3_rows (by omega), up3_rows (by omega)]
      · rw [put_f (by decide), up3_ne (by omega), up3_ne (by omega), up3_self]
      · rw [put_f (by decide), up3_self]
      · rw [put_f (by decide), up3_ne (by omega), up3_ne (by omega), up3_ne (by omega)]
      · rw [put_f (by decide), up3_ne (by omega)]
        by_cases e : j = ix (m 3 q 6)
        · rw [if_pos ⟨h3, h6, e⟩, e, up3_self]
        · rw [if_neg (fun z => e z.2.2), up3_ne (by omega), up3_ne (by omega)]
      · rw [put_4, up3_ne (by omega), up3_ne (by omega), up3_ne (by omega)]
theorem fn_s : FN (K + 1) m p ↔ FN K m p ∨ (dn m K ∧ m 2 K 1 = nI p) := by
  constructor
  · rintro ⟨t, ht, g⟩
    rcases Nat.lt_or_ge t K with l | l
    · exact Or.inl ⟨t, l, g⟩
    · have : t = K := by omega
      subst this
      exact Or.inr g
  · rintro (⟨t, ht, g⟩ | g)
    · exact ⟨t, by omega, g⟩
    · exact ⟨K, by omega, g⟩
theorem wf_step (hI : IN m) (hG : GS m) (hK : K < ix (m 0 0 1)) (h : WF K m s) : WF (K + 1) m (bd_X1_workTugs_2 K s) := by
  obtain ⟨w0, w1, w2, w3, w4, w5, w6, w7, w8⟩ := h
  have ba := hI.na.2
  have bs := hI.ns.2
  have r := w3 K (Nat.le_refl K)
  have r1 : s 2 K 1 = m 2 K 1 := congrFun r 1
  have r2 : s 2 K 2 = m 2 K 2 := congrFun r 2
  have lst : ∀ t, t < K + 1 → t < K ∨ t = K := fun t ht => by omega
  unfold bd_X1_workTugs_2
  rw [up3_self, r1, r2, up3_ne (f' := 2) (k' := 1) (by omega), r1]
  by_cases h1 : m 2 K 1 = -1
  · rw [if_pos h1]
    have nd : ¬ dn m K := fun z => z.1 h1
    have fe : ∀ p, FN (K + 1) m p ↔ FN K m p := fun p => fn_s.trans ⟨fun z => z.elim id (fun y => absurd y.1 nd), Or.inl⟩
    have ce : ∀ j, CN (K + 1) m j ↔ CN K m j := fun j => ⟨fun ⟨p, a, b, c⟩ => ⟨p, a, (fe p).mp b, c⟩, fun ⟨p, a, b, c⟩ => ⟨p, a, (fe p).mpr b, c⟩⟩
    refine ⟨w0, w1, fun t ht => ?_, fun t ht => w3 t (by omega), w4, fun p hp => ⟨fun z => (w5 p hp).1 ((fe p).mp z), fun z => (w5 p hp).2 (fun y => z ((fe p).mpr y))⟩, w6, fun j hj => ⟨fun z => (w7 j hj).1 ((ce j).mp z), fun z => (w7 j hj).2 (fun y => z ((ce j).mpr y))⟩, ?_⟩
    · rcases lst t ht with l | l
      · exact w2 t l
      · subst l
        exact ⟨⟨fun z => absurd z nd, fun _ => r1⟩, fun _ => r2, fun z => absurd h1 z⟩
    · rw [w8]
      show _ = m 4 0 0 + (dc m K + d1 m K)
      unfold d1
      rw [if_neg (fun z => z.1 h1)]
      simp
  · rw [if_neg h1]
    obtain ⟨p0, hp0, ep⟩ := (hI.2.2.1 K hK).1.resolve_left h1
    by_cases h2 : m 2 K 2 - 1 = 0
    · rw [if_pos h2, ep, ix_nI (by omega)]
      have d : dn m K := ⟨h1, h2⟩
      have nf : ¬ FN K m p0 := fun ⟨t, ht, g, e⟩ => by
        have := hG.2.2.2.2 t K (by omega) hK (e.trans ep.symm) (by rw [e]; exact nI_n1 (by omega))
        omega
      have fe : ∀ p, p < 12 → (FN (K + 1) m p ↔ FN K m p ∨ p = p0) := fun p hp => fn_s.trans ⟨fun z => z.elim Or.inl (fun y => Or.inr (nI_inj (by omega) (by omega) (y.2.symm.trans ep))), fun z => z.elim Or.inl (fun y => Or.inr ⟨d, by rw [y]; exact ep⟩)⟩
      obtain ⟨f0, f1, f2, f3, f4, f5, f6, f7⟩ := fin_form (m := up3 s 2 K 2 (m 2 K 2 - 1)) (q := p0)
      have u3 : up3 s 2 K 2 (m 2 K 2 - 1) 3 = s 3 := up3_fam (by decide)
      have u1 : up3 s 2 K 2 (m 2 K 2 - 1) 1 = s 1 := up3_fam (by decide)
      have s0 := (w5 p0 hp0).2 nf
      rw [u3, s0.1] at f3
      rw [u3, s0.1, s0.2] at f4
      have st := (hG.2.2.2.1 K hK).2 p0 hp0 ep
      have hpp : HP (m 3 p0 5) := st.1.elim (fun e => Or.inr (Or.inl e)) (fun e => Or.inr (Or.inr e))
      refine ⟨?_, fun t k a b => ?_, fun t ht => ?_, fun t ht => ?_, fun p k a b => ?_, fun p hp => ?_, fun j k a => ?_, fun j hj => ?_, ?_⟩
      · rw [up3_fam (by decide), f0 0 (Or.inl rfl), up3_fam (by decide)]
        exact w0
      · rw [up3_ne (by omega), f0 2 (Or.inr rfl), up3_ne (by omega)]
        exact w1 t k a b
      · rcases lst t ht with l | l
        · rw [up3_ne (by omega), up3_ne (by omega), f0 2 (Or.inr rfl), up3_ne (by omega), up3_ne (by omega)]
          exact w2 t l
        · subst l
          refine ⟨⟨fun _ => up3_self _ _ _ _ _, fun z => absurd d z⟩, fun z => absurd z h1, fun _ => ?_⟩
          rw [up3_ne (by omega), f0 2 (Or.inr rfl), up3_self]
      · rw [up3_rows (by omega), f0 2 (Or.inr rfl), up3_rows (by omega)]
        exact w3 t (by omega)
      · rw [up3_fam (by decide), f1 p k a b, u3]
        exact w4 p k a b
      · rw [up3_fam (f := 2) (f' := 3) (m := x_X1_finish _ _) (by decide)]
        by_cases e : p = p0
        · subst e
          exact ⟨fun _ => ⟨f3, f4⟩, fun z => absurd ((fe p (by omega)).mpr (Or.inr rfl)) z⟩
        · rw [f2 p e, u3]
          exact ⟨fun z => (w5 p hp).1 (((fe p (by omega)).mp z).resolve_right e), fun z => (w5 p hp).2 (fun y => z ((fe p (by omega)).mpr (Or.inl y)))⟩
      · rw [up3_fam (by decide), f5 j k a, u1]
        exact w6 j k a
      · rw [up3_fam (f := 2) (f' := 1) (m := x_X1_finish _ _) (by decide), f6 j, u3, s0.1, s0.2, u1]
        have hj0 : (m 1 j 1 = nI p0) ↔ m 3 p0 6 = nI j := by
          have := hI.2.1.2.1 j p0 hj hp0
          exact ⟨fun z => (this.mpr z).2, fun z => this.mp ⟨hpp, z⟩⟩
        have ce : CN (K + 1) m j ↔ CN K m j ∨ (m 1 j 1 = nI p0 ∧ ¬ m 3 p0 5 = 3) := by
          constructor
          · rintro ⟨p, a, b, c⟩
            rcases (fe p (by omega)).mp b with y | y
            · exact Or.inl ⟨p, a, y, c⟩
            · subst y
              exact Or.inr c
          · rintro (⟨p, a, b, c⟩ | c)
            · exact ⟨p, a, (fe p (by omega)).mpr (Or.inl b), c⟩
            · exact ⟨p0, hp0, (fe p0 (by omega)).mpr (Or.inr rfl), c⟩
        constructor
        · intro z
          rcases ce.mp z with y | ⟨y1, y2⟩
          · rw [(w7 j hj).1 y]
            split <;> rfl
          · have e6 := hj0.mp y1
            rw [if_pos ⟨y2, by rw [e6]; exact nI_n1 (by omega), by rw [e6, ix_nI (by omega)]⟩]
        · intro z
          have z1 : ¬ CN K m j := fun y => z (ce.mpr (Or.inl y))
          rw [if_neg (fun y => ?_), (w7 j hj).2 z1]
          obtain ⟨y1, y2, y3⟩ := y
          rcases hI.2.1.1 p0 hp0 with g | ⟨-, i, hi, g⟩
          · exact y2 g.2
          · have g' : m 3 p0 6 = nI i := g
            rw [g', ix_nI (by omega)] at y3
            subst y3
            exact z (ce.mpr (Or.inr ⟨hj0.mpr g', y1⟩))
      · rw [up3_ne (by omega), f7, up3_ne (by omega), w8]
        show _ = m 4 0 0 + (dc m K + d1 m K)
        unfold d1
        rw [if_pos ⟨h1, h2⟩, Int32.add_assoc]
    · rw [if_neg h2]
      have nd : ¬ dn m K := fun z => h2 z.2
      have fe : ∀ p, FN (K + 1) m p ↔ FN K m p := fun p => fn_s.trans ⟨fun z => z.elim id (fun y => absurd y.1 nd), Or.inl⟩
      have ce : ∀ j, CN (K + 1) m j ↔ CN K m j := fun j => ⟨fun ⟨p, a, b, c⟩ => ⟨p, a, (fe p).mp b, c⟩, fun ⟨p, a, b, c⟩ => ⟨p, a, (fe p).mpr b, c⟩⟩
      have u3 : up3 s 2 K 2 (m 2 K 2 - 1) 3 = s 3 := up3_fam (by decide)
      have u1 : up3 s 2 K 2 (m 2 K 2 - 1) 1 = s 1 := up3_fam (by decide)
      refine ⟨?_, fun t k a b => ?_, fun t ht => ?_, fun t ht => ?_, ?_, ?_, ?_, ?_, ?_⟩
      · rw [up3_fam (by decide)]
        exact w0
      · rw [up3_ne (by omega)]
        exact w1 t k a b
      · rcases lst t ht with l | l
        · rw [up3_ne (by omega), up3_ne (by omega)]
          exact w2 t l
        · subst l
          refine ⟨⟨fun z => absurd z nd, fun _ => ?_⟩, fun z => absurd z h1, fun _ => up3_self _ _ _ _ _⟩
          rw [up3_ne (by omega)]
          exact r1
      · rw [up3_rows (by omega)]
        exact w3 t (by omega)
      · rw [u3]
        exact w4
      · rw [u3]
        exact fun p hp => ⟨fun z => (w5 p hp).1 ((fe p).mp z), fun z => (w5 p hp).2 (fun y => z ((fe p).mpr y))⟩
      · rw [u1]
        exact w6
      · rw [u1]
        exact fun j hj => ⟨fun z => (w7 j hj).1 ((ce j).mp z), fun z => (w7 j hj).2 (fun y => z ((ce j).mpr y))⟩
      · rw [up3_ne (by omega), w8]
        show _ = m 4 0 0 + (dc m K + d1 m K)
        unfold d1
        rw [if_neg (fun z => h2 z.2)]
        simp
theorem wt_form (hI : IN m) (hG : GS m) : WF (ix (m 0 0 1)) m (x_X1_workTugs m) := by
  rw [x_X1_workTugs_eq]
  unfold y_X1_workTugs
  rw [lf_X1_workTugs_2_eq]
  unfold ly_X1_workTugs_2
  refine itr_inv (n := ix (m 0 0 1)) (s := m) (P := fun K s => WF K m s) (fun jz s => bd_X1_workTugs_2 jz s) (fun K s hK g => wf_step hI hG hK g) ⟨rfl, fun _ _ _ _ => rfl, fun t ht => absurd ht (Nat.not_lt_zero t), fun _ _ => rfl, fun _ _ _ _ => rfl, fun p _ => ⟨fun ⟨t, ht, _⟩ => absurd ht (Nat.not_lt_zero t), fun _ => ⟨rfl, rfl⟩⟩, fun _ _ _ => rfl, fun j _ => ⟨fun ⟨p, _, ⟨t, ht, _⟩, _⟩ => absurd ht (Nat.not_lt_zero t), fun _ => rfl⟩, ?_⟩
  show m 4 0 0 = m 4 0 0 + 0
  simp
theorem dn_tw (h : TWN m m') (ht : t < 3) : dn m' t ↔ dn m (2 - t) := by
  unfold dn
  rw [h.u' ht (by decide), h.u' ht (by decide)]
theorem fn_tw (h : TWN m m') : FN 3 m' p ↔ FN 3 m p := by
  constructor
  · rintro ⟨t, ht, d, e⟩
    rw [h.u' ht (by decide)] at e
    exact ⟨2 - t, by omega, (dn_tw h ht).mp d, e⟩
  · rintro ⟨t, ht, d, e⟩
    refine ⟨2 - t, by omega, (dn_tw h (by omega)).mpr ?_, (h.u ht (by decide)).trans e⟩
    rw [show 2 - (2 - t) = t by omega]
    exact d
theorem cn_tw (h : TWN m m') (hj : j < 4) : CN 3 m' (3 - j) ↔ CN 3 m j := by
  unfold CN
  rw [h.s hj (by decide), h.c (z := 2) (by decide)]
  exact ⟨fun ⟨p, a, b, c, d⟩ => ⟨p, a, (fn_tw h).mp b, c, by rw [← h.a a (k := 5) (by decide) (by decide)]; exact d⟩, fun ⟨p, a, b, c, d⟩ => ⟨p, a, (fn_tw h).mpr b, c, by rw [h.a a (k := 5) (by decide) (by decide)]; exact d⟩⟩
theorem dc_tw (h : TWN m m') : dc m' 3 = dc m 3 := by
  have e : ∀ t, t < 3 → d1 m' t = d1 m (2 - t) := fun t ht => by
    unfold d1
    rw [h.u' ht (by decide), h.u' ht (by decide)]
  show 0 + d1 m' 0 + d1 m' 1 + d1 m' 2 = 0 + d1 m 0 + d1 m 1 + d1 m 2
  rw [e 0 (by decide), e 1 (by decide), e 2 (by decide)]
  show 0 + d1 m 2 + d1 m 1 + d1 m 0 = 0 + d1 m 0 + d1 m 1 + d1 m 2
  rw [Int32.zero_add, Int32.zero_add, Int32.add_comm (d1 m 2), Int32.add_comm _ (d1 m 0), Int32.add_assoc]
theorem wt_tw (h : TWN m m') (hI : IN m) (hI' : IN m') (hG : GS m) (hG' : GS m') : TWN (x_X1_workTugs m) (x_X1_workTugs m') := by
  have a := wt_form hI hG
  have a' := wt_form hI' hG'
  rw [h.nt] at a
  rw [h.nt'] at a'
  obtain ⟨w0, w1, w2, w3, w4, w5, w6, w7, w8⟩ := a
  obtain ⟨x0, x1, x2, x3, x4, x5, x6, x7, x8⟩ := a'
  refine ⟨fun z hz => ?_, ?_, fun j k hj hk => ?_, fun t k ht hk => ?_, fun p k hp hk => ?_, ?_⟩
  · rw [w0, x0]
    exact h.1 z hz
  · rw [w0]
    exact h.2.1
  · by_cases e : k = 1
    · subst e
      have b := w7 j (by rw [h.ns]; exact hj)
      have b' := x7 (3 - j) (by rw [h.ns']; omega)
      by_cases c : CN 3 m j
      · rw [b.1 c, b'.1 ((cn_tw h hj).mpr c)]
      · rw [b.2 c, b'.2 (fun y => c ((cn_tw h hj).mp y))]
        exact h.s hj hk
    · rw [w6 j k e, x6 (3 - j) k e]
      exact h.s hj hk
  · have b := w2 t ht
    have b' := x2 (2 - t) (by omega)
    have dd : dn m' (2 - t) ↔ dn m t := (dn_tw h (by omega)).trans (by rw [show 2 - (2 - t) = t by omega])
    have e1 := h.u ht (k := 1) (by decide)
    by_cases k1 : k = 1
    · subst k1
      by_cases c : dn m t
      · rw [b.1.1 c, b'.1.1 (dd.mpr c)]
      · rw [b.1.2 c, b'.1.2 (fun y => c (dd.mp y))]
        exact e1
    · by_cases k2 : k = 2
      · subst k2
        by_cases c : m 2 t 1 = -1
        · rw [b.2.1 c, b'.2.1 (e1.trans c)]
          exact h.u ht hk
        · rw [b.2.2 c, b'.2.2 (by rw [e1]; exact c), h.u ht hk]
      · rw [w1 t k k1 k2, x1 (2 - t) k k1 k2]
        exact h.u ht hk
  · rw [w0] at hp
    have hp' : p < ix (m' 0 0 2) := by rw [h.c (by decide)]; exact hp
    have b := w5 p hp
    have b' := x5 p hp'
    have e5 := h.a hp (k := 5) (by decide) (by decide)
    by_cases k5 : k = 5
    · subst k5
      rw [if_neg (by decide)]
      by_cases c : FN 3 m p
      · rw [(b.1 c).1, (b'.1 ((fn_tw h).mpr c)).1, e5]
      · rw [(b.2 c).1, (b'.2 (fun y => c ((fn_tw h).mp y))).1, e5]
    · by_cases k6 : k = 6
      · subst k6
        rw [if_pos rfl]
        by_cases c : FN 3 m p
        · rw [(b.1 c).2, (b'.1 ((fn_tw h).mpr c)).2, e5, h.a6 hp]
          split <;> rfl
        · rw [(b.2 c).2, (b'.2 (fun y => c ((fn_tw h).mp y))).2, h.a6 hp]
      · rw [if_neg k6, w4 p k k5 k6, x4 p k k5 k6]
        exact h.a hp hk k6
  · rw [w8, x8, h.l, dc_tw h]
/-- what holds besides goes on -/
theorem wt_gs (hI : IN m) (hG : GS m) : GS (x_X1_workTugs m) := by
  obtain ⟨w0, w1, w2, w3, w4, w5, w6, w7, w8⟩ := wt_form hI hG
  obtain ⟨gS, gN, gD, gT, gU⟩ := id hG
  have ba := hI.na.2
  have bs := hI.ns.2
  have t34 : ∀ p, p < ix (m 0 0 2) → FN (ix (m 0 0 1)) m p → m 3 p 5 = 3 ∨ m 3 p 5 = 4 := fun p hp ⟨t, ht, _, e⟩ => ((gT t ht).2 p hp e).1
  have pf : ∀ j, j < ix (m 0 0 0) → PF (x_X1_workTugs m) j → PF m j := fun j hj g => by
    obtain ⟨g1, g2⟩ := g
    have nc : ¬ CN (ix (m 0 0 1)) m j := fun c => g1 ((w7 j hj).1 c)
    rw [(w7 j hj).2 nc] at g1 g2
    obtain ⟨p, hp, e⟩ := (hI.st hj).resolve_left g1
    rw [e, ix_nI (by omega)] at g2
    refine ⟨g1, ?_⟩
    rw [e, ix_nI (by omega)]
    by_cases f : FN (ix (m 0 0 1)) m p
    · rw [((w5 p hp).1 f).1] at g2
      split at g2 <;> exact absurd g2 (by decide)
    · rw [((w5 p hp).2 f).1] at g2
      exact g2
  unfold GS
  rw [w0]
  refine ⟨fun j p hj hp hh e => ?_, fun j hj g => ?_, fun p hp => ?_, fun t ht => ?_, fun t t' ht ht' e n => ?_⟩
  · rw [w6 j 0 (by decide), w4 p 0 (by decide) (by decide)]
    by_cases f : FN (ix (m 0 0 1)) m p
    · rw [((w5 p hp).1 f).1] at hh
      rw [((w5 p hp).1 f).2] at e
      by_cases c : m 3 p 5 = 3
      · rw [if_pos c] at e
        exact gS j p hj hp (by rw [c]; exact Or.inr (Or.inl rfl)) e
      · rw [if_neg c] at hh
        exact absurd rfl (hp_n hh).2.2
    · rw [((w5 p hp).2 f).1] at hh
      rw [((w5 p hp).2 f).2] at e
      exact gS j p hj hp hh e
  · exact gN j hj ⟨pf j (by omega) g.1, pf (j + 1) hj g.2⟩
  · rw [w4 p 7 (by decide) (by decide)]
    by_cases f : FN (ix (m 0 0 1)) m p
    · rw [((w5 p hp).1 f).1]
      rcases t34 p hp f with c | c
      · rw [if_pos c]
        exact ⟨fun z => absurd z (by decide), fun _ => (gD p hp).2 (by rw [c]; decide)⟩
      · rw [if_neg (by rw [c]; decide)]
        exact ⟨fun _ => (gD p hp).1 (Or.inl c), fun z => absurd (Or.inr rfl) z⟩
    · rw [((w5 p hp).2 f).1]
      exact gD p hp
  · obtain ⟨⟨a1, a2⟩, a3, a4⟩ := w2 t ht
    refine ⟨fun z => ?_, fun p hp z => ?_⟩
    · by_cases d : dn m t
      · rw [a4 d.1]
        exact d.2
      · rw [a2 d] at z
        rw [a3 z]
        exact (gT t ht).1 z
    · have nd : ¬ dn m t := fun d => by
        rw [a1 d] at z
        exact nI_n1 (by omega) z.symm
      rw [a2 nd] at z
      have g := (gT t ht).2 p hp z
      have nf : ¬ FN (ix (m 0 0 1)) m p := fun ⟨t', ht', d, e⟩ => by
        have := gU t' t ht' ht (e.trans z.symm) (by rw [e]; exact nI_n1 (by omega))
        rw [this] at d
        exact nd d
      rw [((w5 p hp).2 nf).1, w1 t 0 (by decide) (by decide), w4 p 1 (by decide) (by decide)]
      exact g
  · have nd : ∀ t, t < ix (m 0 0 1) → ¬ x_X1_workTugs m 2 t 1 = -1 → x_X1_workTugs m 2 t 1 = m 2 t 1 := fun t ht g => (w2 t ht).1.2 (fun d => g ((w2 t ht).1.1 d))
    have n' : ¬ x_X1_workTugs m 2 t' 1 = -1 := by rw [← e]; exact n
    rw [nd t ht n] at e n
    rw [nd t' ht' n'] at e
    exact gU t t' ht ht' e n
theorem wt_sm (hI : IN m) (hG : GS m) (hS : SM m) : SM (x_X1_workTugs m) := by
  obtain ⟨w0, w1, w2, w3, w4, w5, w6, w7, w8⟩ := wt_form hI hG
  unfold SM
  rw [w0, show (fun p => x_X1_workTugs m 3 p 8) = fun p => m 3 p 8 from funext fun p => w4 p 8 (by decide) (by decide), show (fun j => x_X1_workTugs m 1 j 2) = fun j => m 1 j 2 from funext fun j => w6 j 2 (by decide)]
  exact hS
theorem wt_ds (hI : IN m) (hG : GS m) (hD : DS m) : DS (x_X1_workTugs m) := by
  obtain ⟨w0, w1, w2, w3, w4, w5, w6, w7, w8⟩ := wt_form hI hG
  unfold DS
  rw [w0]
  refine ⟨fun i j hi hj e => ?_, fun i j hi hj e => ?_⟩
  · rw [w6 i 0 (by decide), w6 j 0 (by decide)] at e
    exact hD.1 i j hi hj e
  · rw [w1 i 0 (by decide) (by decide), w1 j 0 (by decide) (by decide)] at e
    exact hD.2 i j hi hj e
end TUG
