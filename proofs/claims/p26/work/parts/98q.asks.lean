/-! questions, and what is saved -/
section ASK
variable {m m' n n' s : Mem} {S T S' T' : Sys} {μ ν : Mem} {w v d c : Int32} {B B' P j p q k t i K N f : Nat}
theorem first_eq {f g : Nat → Bool} {i i' : Nat} (he : ∀ k, k ≤ P → g k = f k) (hi : i ≤ P) (h1 : ∀ k, k < i → f k = false) (h2 : f i = true ∨ i = P) (hi' : i' ≤ P) (g1 : ∀ k, k < i' → g k = false) (g2 : g i' = true ∨ i' = P) : i' = i := by
  rcases Nat.lt_trichotomy i' i with l | l | l
  · have a := h1 i' l
    rw [← he i' hi'] at a
    rcases g2 with z | z
    · rw [a] at z
      cases z
    · omega
  · exact l
  · have a := g1 i l
    rw [he i hi] at a
    rcases h2 with z | z
    · rw [a] at z
      cases z
    · omega
theorem mins_P (hP : P = 3000) (h : RX B m) (hB : B + 39 * P + 39 < 2 ^ 31) (ht : ix (m 0 0 3) + P ≤ 13000) : ∃ i, i ≤ P ∧ lf_X1_passUntilAllGone_4 P m 0 = (MK1 i m, nI i) ∧ (∀ i', i' < i → x_X1_areAllGone (MK1 i' m) = false) ∧ (x_X1_areAllGone (MK1 i m) = true ∨ i = P) := by
  obtain ⟨μ, r⟩ := h
  have e3 : (3000 : Int32) = nI P := by
    rw [hP]
    rfl
  have l3 : P ≤ 3000 := Nat.le_of_eq hP
  clear hP
  have cls := until_c (P := P) gone_st (fun jz s => bd_X1_passUntilAllGone_4 jz s.1 s.2) (fun j s => by
    show bd_X1_passUntilAllGone_4 j s.1 s.2 = _
    unfold bd_X1_passUntilAllGone_4
    rw [e3]) r hB l3 ht
  rw [lf_X1_passUntilAllGone_4_eq]
  exact cls
/-- how long until all are gone -/
theorem mins_c (h : RX B m) (hB : B + 39 * 3000 + 39 < 2 ^ 31) (ht : ix (m 0 0 3) + 3000 ≤ 13000) : ∃ i, i ≤ 3000 ∧ x_X1_passUntilAllGone m = (MK1 i m, if x_X1_areAllGone (MK1 i m) = true then nI i else -1) ∧ (∀ i', i' < i → x_X1_areAllGone (MK1 i' m) = false) ∧ (x_X1_areAllGone (MK1 i m) = true ∨ i = 3000) := by
  obtain ⟨P, hP⟩ : ∃ P : Nat, P = 3000 := ⟨_, rfl⟩
  obtain ⟨i, hi, e, c1, c2⟩ := mins_P (P := P) hP h (by omega) (by omega)
  refine ⟨i, by omega, ?_, c1, c2.elim Or.inl (fun z => Or.inr (by omega))⟩
  rw [x_X1_passUntilAllGone_eq]
  unfold y_X1_passUntilAllGone
  rw [← hP, e]
  dsimp only
  split <;> rfl
theorem mins_tw (h : QQ B m m') (hB : B + 39 * 3000 + 39 < 2 ^ 31) (ht : ix (m 0 0 3) + 3000 ≤ 13000) : (x_X1_passUntilAllGone m').2 = (x_X1_passUntilAllGone m).2 := by
  have e3 := h.2.2.2.2.c (z := 3) (by decide)
  obtain ⟨i, hi, e, c1, c2⟩ := mins_c h.1 hB ht
  obtain ⟨i', hi', e', d1, d2⟩ := mins_c h.2.1 hB (by rw [e3]; exact ht)
  have g : ∀ k, k ≤ 3000 → x_X1_areAllGone (MK1 k m') = x_X1_areAllGone (MK1 k m) := fun k hk => gone_tw (h.mk k (by omega) (by omega)).1.2.2.2.2
  have ei := first_eq (f := fun k => x_X1_areAllGone (MK1 k m)) (g := fun k => x_X1_areAllGone (MK1 k m')) g hi c1 c2 hi' d1 d2
  rw [e, e', ei]
  dsimp only
  rw [g i hi]
theorem del_c (hP : P = 3000) (h : RX B m) (hm : S 2 = m) (e1 : w = nI q) (hB : B + 39 * P + 39 < 2 ^ 31) (ht : ix (m 0 0 3) + P ≤ 13000) : ∃ i, i ≤ P ∧ lf_X6_delayOf_47 w q P S 0 = (us S 2 (MK1 i m), nI i) ∧ (∀ i', i' < i → decide (¬ MK1 i' m 3 q 7 = -1) = false) ∧ (decide (¬ MK1 i m 3 q 7 = -1) = true ∨ i = P) := by
  obtain ⟨μ, r⟩ := h
  have e3 : (3000 : Int32) = nI P := by
    rw [hP]
    rfl
  have l3 : P ≤ 3000 := Nat.le_of_eq hP
  clear hP
  let F : Nat → Mem × Int32 → Mem × Int32 := fun _ s => if s.2 < nI P then (if decide (¬ s.1 3 q 7 = -1) = true then s else ((x_X1_passSome s.1 (nI P - s.2)).1, s.2 + (x_X1_passSome s.1 (nI P - s.2)).2)) else s
  obtain ⟨i, hi, e, c1, c2⟩ := until_c (P := P) (st := fun x => decide (¬ x 3 q 7 = -1)) (fun x y h3 _ => by rw [h3 q 7 (by decide)]) F (fun j s => rfl) r hB l3 ht
  refine ⟨i, hi, ?_, c1, c2⟩
  rw [lf_X6_delayOf_47_eq]
  unfold ly_X6_delayOf_47
  rw [us_itr (u := 2) F (fun jz s => bd_X6_delayOf_47 w q jz s.1 s.2) (fun j s => by
    show bd_X6_delayOf_47 w q j s.1 s.2 = _
    unfold bd_X6_delayOf_47
    dsimp only [F]
    rw [e3]
    by_cases g : s.2 < nI P
    · rw [if_pos g, if_pos g]
      by_cases g2 : s.1 2 3 q 7 = -1
      · rw [if_pos g2, if_neg (by simp [g2])]
      · rw [if_neg g2, if_pos (by simp [g2]), us_id]
    · rw [if_neg g, if_neg g, us_id]) S 0, hm, e]
/-! what was saved last -/
theorem sv_top (h : SK B S) : ∃ c m, c < 4 ∧ x_X6_save S 0 0 0 0 = nI (c + 1) ∧ x_X6_save S (3 + ix (x_X6_save S 0 1 0 c)) = x_X1_copyFrom m (S 1) := by
  have go : ∀ T : Sys, T 1 = S 1 → VN 3 (T 0 0 0 0) → (∀ i, i < 4 → VN 3 (T 0 1 0 i)) → ∃ c m, c < 4 ∧ sv1 T 0 0 0 0 = nI (c + 1) ∧ sv1 T (3 + ix (sv1 T 0 1 0 c)) = x_X1_copyFrom m (S 1) := fun T h1 hc hp => by
    have b := hc.2
    have b2 := (hp (ix (T 0 0 0 0)) (by omega)).2
    refine ⟨ix (T 0 0 0 0), T (3 + ix (T 0 1 0 (ix (T 0 0 0 0)))), by omega, ?_, ?_⟩
    · unfold sv1
      rw [us_same, up3_self]
      rw [← nI_1, ← hc.1]
    · unfold sv1
      rw [us_same, up3_ne (by omega), us_ne (by omega), us_same, h1]
  rw [x_X6_save_eq]
  unfold y_X6_save
  split
  · rename_i e
    have q := sk_drop h e
    refine go _ ?_ (by rw [q.2]; exact ⟨by decide +kernel, by decide +kernel⟩) q.1.2.1
    rw [x_X6_dropOldest_eq]
    exact us_ne (by decide)
  · rename_i e
    exact go _ rfl (sk_43 h e) h.2.1
/-- back to what was saved last -/
theorem undo_eq (h : SK B S) (h2 : ∀ u, u ≠ 1 → u ≠ 2 → S' u = x_X6_save S u) : ∃ v, (x_X6_undo S').2 = .inl v ∧ ¬ v < 0 ∧ EQ (S 1) ((x_X6_undo S').1 1) := by
  obtain ⟨c, m, hc, e1, e2⟩ := sv_top h
  have p4 := (sk_save h).2.1 c hc
  have b4 := p4.2
  rw [x_X6_undo_eq]
  unfold y_X6_undo
  rw [h2 0 (by decide) (by decide), e1, if_neg (fun z => by
    have := nI_inj (a := c + 1) (b := 0) (by omega) (by decide) z
    omega), show nI (c + 1) - 1 = nI c from pk_sub (b := 1) (by omega), ix_nI (by omega)]
  refine ⟨nI c, rfl, nI_pos (by omega), ?_⟩
  dsimp only
  rw [us_same, h2 (3 + ix (x_X6_save S 0 1 0 c)) (by omega) (by omega), e2]
  exact EQ.copy.trans EQ.copy
/-! both objects between two calls -/
def LI (B : Nat) (S T : Sys) : Prop := (∃ μ, INV B S μ) ∧ (∃ ν, INV B T ν) ∧ GX (S 1) ∧ GX (T 1) ∧ TWN (S 1) (T 1)
theorem LI.qq (h : LI B S T) : QQ B (S 1) (T 1) := ⟨h.1.elim fun μ z => ⟨μ, z.rb⟩, h.2.1.elim fun μ z => ⟨μ, z.rb⟩, h.2.2⟩
theorem LI.k1 (h : LI B S T) : SK B S := h.1.elim fun _ z => z.1
theorem LI.k2 (h : LI B S T) : SK B T := h.2.1.elim fun _ z => z.1
theorem LI.bd (h : LI B S T) : B + 200000 < 2147483648 := h.1.elim fun _ z => z.2.1
theorem LI.mono (h : LI B S T) (hb : B ≤ B') (h2 : B' + 200000 < 2147483648) : LI B' S T := ⟨h.1.elim fun μ z => ⟨μ, z.mono hb h2⟩, h.2.1.elim fun μ z => ⟨μ, z.mono hb h2⟩, h.2.2⟩
theorem LI.t3 (h : LI B S T) : ix (S 1 0 0 3) ≤ 10000 := h.1.elim fun _ z => z.2.2.1.2.2.1.1
theorem LI.t3' (h : LI B S T) : ix (T 1 0 0 3) ≤ 10000 := h.2.1.elim fun _ z => z.2.2.1.2.2.1.1
theorem LI.i1 (h : LI B S T) : IN (S 1) := h.qq.1.iN
theorem LI.i2 (h : LI B S T) : IN (T 1) := h.qq.2.1.iN
theorem mins_of : (x_X6_minutesToAll S).1 1 = S 1 ∧ (x_X6_minutesToAll S).2 = (x_X1_passUntilAllGone (x_X1_copyFrom (S 2) (S 1))).2 ∧ ∀ u, u ≠ 2 → (x_X6_minutesToAll S).1 u = S u := by
  rw [x_X6_minutesToAll_eq]
  unfold y_X6_minutesToAll
  dsimp only
  rw [us_same]
  exact ⟨by rw [us_ne (by decide), us_ne (by decide)], rfl, fun u hu => by rw [us_ne hu, us_ne hu]⟩
/-- the trial fields of both -/
theorem LI.trial (h : LI B S T) : QQ B (x_X1_copyFrom (S 2) (S 1)) (x_X1_copyFrom (T 2) (T 1)) ∧ ix (x_X1_copyFrom (S 2) (S 1) 0 0 3) ≤ 10000 := by
  obtain ⟨⟨μ, a⟩, ⟨ν, b⟩, g, g', t⟩ := h
  have gx : ∀ {x y : Mem}, GX x → IN x → GX (x_X1_copyFrom y x) := fun {x y} g hI => by
    have e := EQ.copy (m := x) (n := y)
    have e0 := e.1 0 (by decide)
    have e1 := e.1 1 (by decide)
    have e2 := e.1 2 (by decide)
    have na := hI.na.2
    obtain ⟨⟨gS, gN, gD, gT, gU⟩, gM, gd⟩ := g
    have pf : ∀ a, a < ix (x 0 0 0) → PF (x_X1_copyFrom y x) a → PF x a := fun a ha z => by
      unfold PF at z ⊢
      rw [e.2.1 a 1 ha (by decide)] at z
      obtain ⟨p, hp, ep⟩ := (hI.st ha).resolve_left z.1
      rw [ep, ix_nI (by omega)] at z ⊢
      rw [e.2.2.2.1 p 5 hp (by decide)] at z
      exact z
    refine ⟨?_, ?_, gd.eq e⟩
    · unfold GS
      rw [e0, e1, e2]
      refine ⟨fun j p hj hp hh z => ?_, fun j hj z => gN j hj ⟨pf j (by omega) z.1, pf (j + 1) hj z.2⟩, fun p hp => ?_, fun t ht => ?_, fun t t' ht ht' z z2 => ?_⟩
      · rw [e.2.2.2.1 p 5 hp (by decide)] at hh
        rw [e.2.2.2.1 p 6 hp (by decide)] at z
        rw [e.2.1 j 0 hj (by decide), e.2.2.2.1 p 0 hp (by decide)]
        exact gS j p hj hp hh z
      · rw [e.2.2.2.1 p 5 hp (by decide), e.2.2.2.1 p 7 hp (by decide)]
        exact gD p hp
      · rw [e.2.2.1 t 1 ht (by decide), e.2.2.1 t 2 ht (by decide), e.2.2.1 t 0 ht (by decide)]
        refine ⟨(gT t ht).1, fun p hp z => ?_⟩
        rw [e.2.2.2.1 p 5 hp (by decide), e.2.2.2.1 p 1 hp (by decide)]
        exact (gT t ht).2 p hp z
      · rw [e.2.2.1 t 1 ht (by decide)] at z z2
        rw [e.2.2.1 t' 1 ht' (by decide)] at z
        exact gU t t' ht ht' z z2
    · unfold SM
      rw [e0, e2, isum_cg (g := fun p => x 3 p 8) _ (fun p hp => e.2.2.2.1 p 8 hp (by decide)), isum_cg (f := fun j => x_X1_copyFrom y x 1 j 2) (g := fun j => x 1 j 2) _ (fun j hj => e.2.1 j 2 hj (by decide))]
      exact gM
  exact ⟨⟨⟨_, a.trial.1⟩, ⟨_, b.trial.1⟩, gx g a.rb.1.2, gx g' b.rb.1.2, t.eq EQ.copy EQ.copy⟩, a.t3⟩
theorem LI.mins (h : LI B S T) (hb : B + 117100 ≤ B') (hB : B' + 200000 < 2147483648) : LI B' (x_X6_minutesToAll S).1 (x_X6_minutesToAll T).1 ∧ (x_X6_minutesToAll T).2 = (x_X6_minutesToAll S).2 := by
  have tr := h.trial
  have q := mins_tw tr.1 (by omega) (by omega)
  obtain ⟨⟨μ, a⟩, ⟨ν, b⟩, g⟩ := h
  have a' := call_minutesToAll a hb hB
  have b' := call_minutesToAll b hb hB
  refine ⟨⟨⟨_, a'.2⟩, ⟨_, b'.2⟩, ?_⟩, ?_⟩
  · rw [mins_of.1, mins_of.1]
    exact g
  · rw [mins_of.2.1, mins_of.2.1]
    exact q
theorem del_of (h : LI B S T) (hq : q < ix (S 1 0 0 2)) : (∃ v, (x_X6_delayOf S (nI q)).2 = .inl v ∧ (x_X6_delayOf T (nI q)).2 = .inl v) ∧ (x_X6_delayOf S (nI q)).1 1 = S 1 ∧ (x_X6_delayOf T (nI q)).1 1 = T 1 := by
  obtain ⟨P, hP⟩ : ∃ P : Nat, P = 3000 := ⟨_, rfl⟩
  have tr := h.trial
  have hb := h.bd
  have e2 := h.qq.2.2.2.2.c (z := 2) (by decide)
  have e3 := tr.1.2.2.2.2.c (z := 3) (by decide)
  have ba := h.i1.na.2
  have hs : ∀ x : Mem, IN x → q < ix (x 0 0 2) → x_X1_hasAircraft x (nI q) = true := fun x hI hx => by
    have := hI.na.2
    rw [x_X1_hasAircraft_eq]
    unfold y_X1_hasAircraft
    rw [if_neg (nI_pos (by omega)), if_pos (by rw [hI.na.1]; exact nI_lt (by omega) (by omega))]
  obtain ⟨i, hi, e, c1, c2⟩ := del_c (S := us S 2 (x_X1_copyFrom (S 2) (S 1))) (q := q) hP tr.1.1 (us_same _ _ _) rfl (by omega) (by omega)
  obtain ⟨i', hi', e', d1, d2⟩ := del_c (S := us T 2 (x_X1_copyFrom (T 2) (T 1))) (q := q) hP tr.1.2.1 (us_same _ _ _) rfl (by omega) (by rw [e3]; omega)
  have qc : q < ix (x_X1_copyFrom (S 2) (S 1) 0 0 2) := by
    rw [(EQ.copy (m := S 1) (n := S 2)).1 2 (by decide)]
    exact hq
  have same : ∀ k, k ≤ P → MK1 k (x_X1_copyFrom (T 2) (T 1)) 3 q 7 = MK1 k (x_X1_copyFrom (S 2) (S 1)) 3 q 7 := fun k hk => by
    have z := (tr.1.mk k (by omega) (by omega)).1
    refine z.2.2.2.2.a ?_ (by decide) (by decide)
    obtain ⟨μ, r⟩ := tr.1.1
    rw [(mk_ok r k (by omega) (by omega)).2.1 2 (by decide)]
    exact qc
  have ei := first_eq (f := fun k => decide (¬ MK1 k (x_X1_copyFrom (S 2) (S 1)) 3 q 7 = -1)) (g := fun k => decide (¬ MK1 k (x_X1_copyFrom (T 2) (T 1)) 3 q 7 = -1)) (fun k hk => by
    show decide (¬ MK1 k (x_X1_copyFrom (T 2) (T 1)) 3 q 7 = -1) = decide (¬ MK1 k (x_X1_copyFrom (S 2) (S 1)) 3 q 7 = -1)
    rw [same k hk]) hi c1 c2 hi' d1 d2
  subst ei
  rw [x_X6_delayOf_eq]
  unfold y_X6_delayOf
  rw [if_pos (hs _ h.i1 hq), if_pos (hs _ h.i2 (by rw [e2]; exact hq)), ix_nI (by omega), ← hP, e, e']
  dsimp only
  rw [us_same, us_same]
  refine ⟨⟨_, rfl, ?_⟩, by rw [us_ne (by decide), us_ne (by decide)], by rw [us_ne (by decide), us_ne (by decide)]⟩
  rw [same i' hi]
theorem LI.del (h : LI B S T) (hq : q < ix (S 1 0 0 2)) (hb : B + 117100 ≤ B') (hB : B' + 200000 < 2147483648) : LI B' (x_X6_delayOf S (nI q)).1 (x_X6_delayOf T (nI q)).1 ∧ (∃ v, (x_X6_delayOf S (nI q)).2 = .inl v ∧ (x_X6_delayOf T (nI q)).2 = .inl v) ∧ (x_X6_delayOf S (nI q)).1 1 = S 1 ∧ (x_X6_delayOf T (nI q)).1 1 = T 1 := by
  have z := del_of h hq
  obtain ⟨⟨v, z1, z2⟩, z3, z4⟩ := id z
  obtain ⟨⟨μ, a⟩, ⟨ν, b⟩, g⟩ := h
  have a' := (call_delayOf (p1 := nI q) a hb hB).2
  have b' := (call_delayOf (p1 := nI q) b hb hB).2
  rw [z1] at a'
  rw [z2] at b'
  refine ⟨⟨⟨_, a'⟩, ⟨_, b'⟩, ?_⟩, z⟩
  rw [z3, z4]
  exact g
end ASK
