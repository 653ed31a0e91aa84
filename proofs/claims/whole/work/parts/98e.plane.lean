/-! parse: one plane -/
def OT (r : Nat) (T T0 μ μ0 : Mem) : Prop := T 0 0 1 = T0 0 0 1 ∧ μ 0 0 4 = μ0 0 0 4 ∧ (∀ f i, f ≠ 0 → i ≠ r → T f 0 i = T0 f 0 i) ∧ ∀ k, ¬ (5 * r ≤ k ∧ k < 5 * r + 5) → μ 6 0 k = μ0 6 0 k
def RW5 (T μ : Mem) (r : Nat) : Prop := (∃ a b, a ≤ 9 ∧ b ≤ 9 ∧ T 2 0 r = nI (10 * a + b) ∧ μ 6 0 (5 * r) = nI a ∧ μ 6 0 (5 * r + 1) = nI b) ∧ (T 3 0 r = μ 6 0 (5 * r + 2) ∧ VN 1999 (T 3 0 r)) ∧ (T 4 0 r = μ 6 0 (5 * r + 3) ∧ VN 1999 (T 4 0 r)) ∧ T 5 0 r = μ 6 0 (5 * r + 4)
section PLN
variable {T T0 T1 μ μ0 μ1 : Mem} {g q r : Nat} {x y v p2 p3 c d : Int32}
theorem OT.refl : OT r T T μ μ := ⟨rfl, rfl, fun _ _ _ _ => rfl, fun _ _ => rfl⟩
theorem OT.sm (h : OT r T T0 μ μ0) (s : SM T1 T μ1 μ) : OT r T1 T0 μ1 μ0 :=
  ⟨s.2.1.trans h.1, s.2.2.2.trans h.2.1, fun f i hf hi => by rw [s.1 f hf]; exact h.2.2.1 f i hf hi, fun k hk => by rw [s.2.2.1 6 (by decide)]; exact h.2.2.2 k hk⟩
theorem OT.cls {f : Nat} (h : OT r T T0 μ μ0) (hf : 2 ≤ f) : OT r (up3 T f 0 r v) T0 μ μ0 :=
  ⟨by rw [up3_ne (by omega)]; exact h.1, h.2.1, fun f' i hf' hi => by rw [up3_ne (by omega)]; exact h.2.2.1 f' i hf' hi, h.2.2.2⟩
theorem OT.mod {k : Nat} (h : OT r T T0 μ μ0) (hk : 5 * r ≤ k ∧ k < 5 * r + 5) : OT r T T0 (up3 μ 6 0 k v) μ0 :=
  ⟨h.1, by rw [up3_ne (by simp)]; exact h.2.1, h.2.2.1, fun z hz => by rw [up3_ne (by omega)]; exact h.2.2.2 z hz⟩
/-- one digit -/
theorem rd_dig {a : Nat} (hc : c = 4 ∨ c = 3) (hT : TR T μ) (ha : 5 * r ≤ a ∧ a < 5 * r + 5) (hO : OT r T T0 μ μ0) : (x_X6_isOutside (x_X4_digitHere T) 1 c = false ∧ (x_X7_readsDigit μ a c).2 = true ∧ TR (up3 T 0 0 2 (T 0 0 2 + 1)) (x_X7_readsDigit μ a c).1 ∧ OT r (up3 T 0 0 2 (T 0 0 2 + 1)) T0 (x_X7_readsDigit μ a c).1 μ0 ∧ (∃ n, n ≤ 9 ∧ x_X4_digitHere T = nI n ∧ (x_X7_readsDigit μ a c).1 6 0 a = nI n) ∧ ∀ k, k ≠ a → (x_X7_readsDigit μ a c).1 6 0 k = μ 6 0 k) ∨ (x_X6_isOutside (x_X4_digitHere T) 1 c = true ∧ BAD (T, T 0 0 2) (x_X7_readsDigit μ a c)) := by
  have e := dg_ok hc hT
  rw [x_X7_readsDigit_eq]
  unfold y_X7_readsDigit
  have p3 : up3 μ 6 0 a (x_X7_here μ - 48) 0 0 3 = μ 0 0 3 := up3_ne (by simp)
  rw [e]
  by_cases g : x_X7_in (x_X7_here μ).toInt64 49 (48 + c).toInt64 = true
  · rw [if_pos g]
    have nd : ¬ x_X4_digitHere T = -1 := fun z => by
      rw [z, g] at e
      have : x_X6_isOutside (-1) 1 c = true := by
        rw [x_X6_isOutside_eq]
        unfold y_X6_isOutside
        rw [if_pos (by decide)]
      rw [this] at e
      cases e
    obtain ⟨n, e1, e2, hn, l⟩ := dg_v hT nd
    refine Or.inl ⟨by rw [g]; rfl, g, ?_, ?_, ⟨n, hn, e1, ?_⟩, fun k hk => ?_⟩
    · have := (hT.mod (k := a) (v := x_X7_here μ - 48)).step l
      exact this
    · refine ⟨?_, ?_, fun f i hf hi => ?_, fun k hk => ?_⟩
      · rw [up3_ne (by decide)]; exact hO.1
      · dsimp only
        rw [up3_ne (f := 0) (by decide), up3_ne (f := 6) (by simp)]; exact hO.2.1
      · rw [up3_fam hf]; exact hO.2.2.1 f i hf hi
      · dsimp only
        rw [up3_fam (by decide), up3_ne (by omega)]; exact hO.2.2.2 k hk
    · dsimp only
      rw [up3_fam (by decide), up3_self, e2]
    · dsimp only
      rw [up3_fam (by decide), up3_ne (by simp [hk])]
  · rw [if_neg g]
    refine Or.inr ⟨by rw [eq_false_of_ne_true g]; rfl, hT.ne, eq_false_of_ne_true g, ?_⟩
    dsimp only
    rw [up3_self, p3, Int32.add_zero]
    exact hT.2.1
/-- a sign, either way -/
theorem sg_2 (hT : TR T μ) (hc : ¬ c = -1) : (x_X4_byteHere T = c ∧ (x_X7_passes μ c).2 = true ∧ TR (up3 T 0 0 2 (T 0 0 2 + 1)) (x_X7_passes μ c).1 ∧ SM (up3 T 0 0 2 (T 0 0 2 + 1)) T (x_X7_passes μ c).1 μ) ∨ (¬ x_X4_byteHere T = c ∧ (x_X7_passes μ c).2 = false ∧ TR T (x_X7_passes μ c).1 ∧ SM T T (x_X7_passes μ c).1 μ) := by
  rw [x_X7_passes_eq]
  unfold y_X7_passes
  rw [by_eq hT]
  by_cases g : x_X7_here μ = c
  · rw [if_pos g]
    have l := hr_lt hT (by rw [g]; exact hc)
    exact Or.inl ⟨g, rfl, hT.step l, fun f hf => up3_fam hf, (up3_ne (by decide) : up3 T 0 0 2 (T 0 0 2 + 1) 0 0 1 = T 0 0 1), fun f hf => up3_fam hf, (up3_ne (by decide) : up3 μ 0 0 3 (μ 0 0 3 + 1) 0 0 4 = μ 0 0 4)⟩
  · rw [if_neg g, Int32.add_zero, up3_id]
    exact Or.inr ⟨g, rfl, hT, fun _ _ => rfl, rfl, fun _ _ => rfl, rfl⟩
/-- two minutes -/
theorem rm_ok {A Bb C : Mem × Bool} {M : Mem × Int32} (hT : TR T μ) (hO : OT r T T0 μ μ0) (eA : x_X7_readsNumber μ 4 0 1999 = A) (eB : x_X7_passes (up3 A.1 6 0 (5 * r + 2) (A.1 0 0 5)) 44 = Bb) (eC : x_X7_readsNumber Bb.1 4 (Bb.1 6 0 (5 * r + 2) + 1) 1999 = C) (eM : x_X4_readMinutes T r = M) :
    (M.2 = -1 ∧ A.2 = true ∧ Bb.2 = true ∧ C.2 = true ∧ TR M.1 (up3 C.1 6 0 (5 * r + 3) (C.1 0 0 5)) ∧ OT r M.1 T0 (up3 C.1 6 0 (5 * r + 3) (C.1 0 0 5)) μ0 ∧ (M.1 3 0 r = up3 C.1 6 0 (5 * r + 3) (C.1 0 0 5) 6 0 (5 * r + 2) ∧ VN 1999 (M.1 3 0 r)) ∧ (M.1 4 0 r = up3 C.1 6 0 (5 * r + 3) (C.1 0 0 5) 6 0 (5 * r + 3) ∧ VN 1999 (M.1 4 0 r)) ∧ M.1 2 = T 2 ∧ ∀ k, k ≠ 5 * r + 2 → k ≠ 5 * r + 3 → up3 C.1 6 0 (5 * r + 3) (C.1 0 0 5) 6 0 k = μ 6 0 k) ∨
    (¬ M.2 = -1 ∧ ((A.2 = false ∧ M.2 = A.1 0 0 3) ∨ (A.2 = true ∧ Bb.2 = false ∧ M.2 = Bb.1 0 0 3) ∨ (A.2 = true ∧ Bb.2 = true ∧ C.2 = false ∧ M.2 = C.1 0 0 3))) := by
  rw [x_X4_readMinutes_eq] at eM
  unfold y_X4_readMinutes at eM
  have a := rn_ok (g := 4) (p2 := 0) (p3 := 1999) hT (Or.inr rfl)
  rw [eA] at a
  generalize x_X4_readNumber T 4 0 1999 = N at a eM
  rcases a with ⟨a1, a2, a3, a4, a5, a6⟩ | ⟨a1, a2, a3⟩
  · rw [if_pos a1] at eM
    have va : VN 1999 (N.1 0 0 3) := out_VN (by decide) (by decide) (by decide) a6
    have T1 : TR (up3 N.1 3 0 r (N.1 0 0 3)) (up3 A.1 6 0 (5 * r + 2) (A.1 0 0 5)) := (a3.cls (by decide)).mod
    have O1 : OT r (up3 N.1 3 0 r (N.1 0 0 3)) T0 (up3 A.1 6 0 (5 * r + 2) (A.1 0 0 5)) μ0 := ((hO.sm a4).cls (by decide)).mod (by omega)
    have b := sg_ok (c := 44) T1 (by decide)
    rw [eB] at b
    generalize x_X4_readSign (up3 N.1 3 0 r (N.1 0 0 3)) 44 = N2 at b eM
    rcases b with ⟨b1, b2, -, b4, b5⟩ | ⟨b1, b2, b3⟩
    · rw [if_pos b1] at eM
      have O2 := O1.sm b5
      have e3 : N2.1 3 0 r = N.1 0 0 3 := by rw [b5.1 3 (by decide), up3_self]
      have e6 : Bb.1 6 0 (5 * r + 2) = A.1 0 0 5 := by rw [b5.2.2.1 6 (by decide), up3_self]
      have c := rn_ok (g := 4) (p2 := N2.1 3 0 r + 1) (p3 := 1999) b4 (Or.inr rfl)
      have e36 : N2.1 3 0 r = Bb.1 6 0 (5 * r + 2) := by rw [e3, e6, a5]
      rw [e36, eC] at c
      rw [e36] at eM
      generalize x_X4_readNumber N2.1 4 (Bb.1 6 0 (5 * r + 2) + 1) 1999 = N3 at c eM
      subst eM
      rcases c with ⟨c1, c2, c3, c4, c5, c6⟩ | ⟨c1, c2, c3⟩
      · have vb : VN 1999 (N3.1 0 0 3) := by
          have o := out_of c6
          refine vn_of_le (c := 1999) (by decide +kernel) (by decide) (fun z => o.1 ?_) o.2
          have s1 := (vn_s va (by decide)).1
          rw [e6, ← a5]
          exact Int32.lt_of_lt_of_le z (Int32.not_lt.mp (vn_nn s1 (by decide)))
        refine Or.inl ⟨c1, a2, b2, c2, (c3.cls (by decide)).mod, ((O2.sm c4).cls (by decide)).mod (by omega), ⟨?_, ?_⟩, ⟨?_, ?_⟩, ?_, fun k k2 k3 => ?_⟩
        · dsimp only
          rw [up3_ne (by simp), up3_ne (by omega), c4.1 3 (by decide), c4.2.2.1 6 (by decide), e36]
        · dsimp only
          rw [up3_ne (by simp), c4.1 3 (by decide), e3]
          exact va
        · dsimp only
          rw [up3_self, up3_self, c5]
        · dsimp only
          rw [up3_self]
          exact vb
        · dsimp only
          rw [up3_fam (by decide), c4.1 2 (by decide), b5.1 2 (by decide), up3_fam (by decide), a4.1 2 (by decide)]
        · rw [up3_ne (by simp [k3]), c4.2.2.1 6 (by decide), b5.2.2.1 6 (by decide), up3_ne (by simp [k2]), a4.2.2.1 6 (by decide)]
      · exact Or.inr ⟨c1, Or.inr (Or.inr ⟨a2, b2, c2, c3⟩)⟩
    · rw [if_neg b1] at eM
      subst eM
      exact Or.inr ⟨b1, Or.inr (Or.inl ⟨a2, b2, b3⟩)⟩
  · rw [if_neg a1] at eM
    subst eM
    exact Or.inr ⟨a1, Or.inl ⟨a2, a3⟩⟩
def GOODP (c : Mem × Int32) (b : Mem × Bool) (r : Nat) (T μ : Mem) : Prop := c.2 = -1 ∧ b.2 = true ∧ TR c.1 b.1 ∧ RW5 c.1 b.1 r ∧ c.1 0 0 1 = T 0 0 1 ∧ b.1 0 0 4 = μ 0 0 4 + 1 ∧ (∀ f i, f ≠ 0 → i ≠ r → c.1 f 0 i = T f 0 i) ∧ ∀ k, ¬ (5 * r ≤ k ∧ k < 5 * r + 5) → b.1 6 0 k = μ 6 0 k
theorem TR.m4 (h : TR T μ) : TR T (up3 μ 0 0 4 v) := by
  refine ⟨?_, ?_, h.2.2.1, h.2.2.2.1, ?_⟩
  · rw [up3_ne (by decide)]; exact h.1
  · rw [up3_ne (by decide)]; exact h.2.1
  · rw [up3_fam (by decide)]; exact h.2.2.2.2
/-- the end of a plane: its last sign -/
theorem pl_end {F : Mem × Bool} {N : Mem × Int32} (hT : TR T μ) (hO : OT r T T0 μ μ0) (hR : RW5 T μ r) (eF : x_X7_passes μ 59 = F) (eN : x_X4_readSign T 59 = N) : GOODP N (if F.2 = true then (up3 F.1 0 0 4 (F.1 0 0 4 + 1), F.2) else (up3 F.1 0 0 4 (F.1 0 0 4 + 0), F.2)) r T0 μ0 ∨ BAD N (if F.2 = true then (up3 F.1 0 0 4 (F.1 0 0 4 + 1), F.2) else (up3 F.1 0 0 4 (F.1 0 0 4 + 0), F.2)) := by
  have b := sg_ok (c := 59) hT (by decide)
  rw [eF, eN] at b
  rcases b with ⟨b1, b2, -, b4, b5⟩ | ⟨b1, b2, b3⟩
  · rw [if_pos b2]
    have O := hO.sm b5
    refine Or.inl ⟨b1, b2, b4.m4, ?_, O.1, ?_, O.2.2.1, fun k hk => ?_⟩
    · unfold RW5
      dsimp only
      rw [up3_fam (f := 0) (f' := 6) (by decide), b5.1 2 (by decide), b5.1 3 (by decide), b5.1 4 (by decide), b5.1 5 (by decide), b5.2.2.1 6 (by decide)]
      exact hR
    · dsimp only
      rw [up3_self, O.2.1]
    · dsimp only
      rw [up3_fam (by decide)]
      exact O.2.2.2 k hk
  · rw [if_neg (by rw [b2]; decide)]
    refine Or.inr ⟨b1, b2, ?_⟩
    dsimp only
    rw [up3_ne (by decide)]
    exact b3
theorem pl_ok (hT : TR T μ) (h4 : μ 0 0 4 = nI r) (hr : r < 12) : GOODP (x_X4_readAircraft T r) (x_X7_readsPlane μ) r T μ ∨ BAD (x_X4_readAircraft T r) (x_X7_readsPlane μ) := by
  have ir : ix (μ 0 0 4) = r := by rw [h4, ix_nI (by omega)]
  have n12 : ¬ μ 0 0 4 = 12 := fun z => by
    rw [h4] at z
    have := nI_inj (a := r) (b := 12) (by omega) (by decide) z
    omega
  rw [x_X4_readAircraft_eq, x_X7_readsPlane_eq]
  unfold y_X4_readAircraft y_X7_readsPlane
  rw [if_neg n12, ir]
  rcases rd_dig (c := 4) (a := 5 * r) (Or.inl rfl) hT (by omega) (OT.refl (r := r)) with ⟨o, b, R1, O1, ⟨n1, hn1, e1, f1⟩, k1⟩ | ⟨o, bad⟩
  · rw [o, if_neg (show ¬ false = true by decide), if_pos b, e1]
    generalize x_X7_readsDigit μ (5 * r) 4 = D1 at *
    generalize up3 T 0 0 2 (T 0 0 2 + 1) = T1 at *
    rcases rd_dig (c := 3) (a := 5 * r + 1) (Or.inr rfl) R1 (by omega) O1 with ⟨o2, b2, R2, O2, ⟨n2, hn2, e2, f2⟩, k2⟩ | ⟨o2, bad⟩
    · rw [o2, if_neg (show ¬ false = true by decide), if_pos b2, e2]
      have q1 : (x_X7_readsDigit D1.1 (5 * r + 1) 3).1 6 0 (5 * r) = nI n1 := by rw [k2 _ (by omega), f1]
      generalize x_X7_readsDigit D1.1 (5 * r + 1) 3 = D2 at *
      generalize up3 T1 0 0 2 (T1 0 0 2 + 1) = T2 at *
      have R3 : TR (up3 T2 2 0 r (10 * nI n1 + nI n2)) D2.1 := R2.cls (by decide)
      have O3 : OT r (up3 T2 2 0 r (10 * nI n1 + nI n2)) T D2.1 μ := O2.cls (by decide)
      have q2 : up3 T2 2 0 r (10 * nI n1 + nI n2) 2 0 r = nI (10 * n1 + n2) := by
        rw [up3_self, show (10 : Int32) = nI 10 from rfl, pk_mul, nI_add]
      generalize up3 T2 2 0 r (10 * nI n1 + nI n2) = T3 at *
      generalize eA : x_X7_readsNumber D2.1 4 0 1999 = A
      generalize eB : x_X7_passes (up3 A.1 6 0 (5 * r + 2) (A.1 0 0 5)) 44 = Bb
      generalize eC : x_X7_readsNumber Bb.1 4 (Bb.1 6 0 (5 * r + 2) + 1) 1999 = C
      generalize eM : x_X4_readMinutes T3 r = M
      rcases rm_ok R3 O3 eA eB eC eM with ⟨m1, m2, m3, m4, R4, O4, w3, w4, w2, wk⟩ | ⟨m1, m2 | m2 | m2⟩
      · rw [if_pos m1, if_pos m2, if_pos m3, if_pos m4]
        have c2 : M.1 2 0 r = nI (10 * n1 + n2) := by rw [w2, q2]
        have z0 : up3 C.1 6 0 (5 * r + 3) (C.1 0 0 5) 6 0 (5 * r) = nI n1 := by rw [wk _ (by omega) (by omega), q1]
        have z1 : up3 C.1 6 0 (5 * r + 3) (C.1 0 0 5) 6 0 (5 * r + 1) = nI n2 := by rw [wk _ (by omega) (by omega), f2]
        generalize up3 C.1 6 0 (5 * r + 3) (C.1 0 0 5) = C3 at *
        have R5 : TR (up3 M.1 5 0 r 100) (up3 C3 6 0 (5 * r + 4) 100) := (R4.cls (by decide)).mod
        have O5 : OT r (up3 M.1 5 0 r 100) T (up3 C3 6 0 (5 * r + 4) 100) μ := (O4.cls (by decide)).mod (by omega)
        have W : ∀ (Y Z : Mem), (∀ f, f ≠ 0 → f ≠ 5 → Y f = M.1 f) → (∀ k, k ≠ 5 * r + 4 → Z 6 0 k = C3 6 0 k) → Y 5 0 r = Z 6 0 (5 * r + 4) → RW5 Y Z r := fun Y Z y z e => by
          refine ⟨⟨n1, n2, hn1, hn2, ?_, ?_, ?_⟩, ⟨?_, ?_⟩, ⟨?_, ?_⟩, e⟩
          · rw [y 2 (by decide) (by decide)]; exact c2
          · rw [z _ (by omega)]; exact z0
          · rw [z _ (by omega)]; exact z1
          · rw [y 3 (by decide) (by decide), z _ (by omega)]; exact w3.1
          · rw [y 3 (by decide) (by decide)]; exact w3.2
          · rw [y 4 (by decide) (by decide), z _ (by omega)]; exact w4.1
          · rw [y 4 (by decide) (by decide)]; exact w4.2
        have s1 : ∀ k, k ≠ 5 * r + 4 → up3 C3 6 0 (5 * r + 4) 100 6 0 k = C3 6 0 k := fun k hk => up3_ne (by simp [hk])
        have s2 : ∀ f, f ≠ 5 → up3 M.1 5 0 r 100 f = M.1 f := fun f hf => up3_fam hf
        have s3 : up3 M.1 5 0 r 100 5 0 r = up3 C3 6 0 (5 * r + 4) 100 6 0 (5 * r + 4) := by rw [up3_self, up3_self]
        generalize up3 C3 6 0 (5 * r + 4) 100 = C4 at *
        generalize up3 M.1 5 0 r 100 = M4 at *
        have dd := sg_2 (c := 112) R5 (by decide)
        generalize x_X7_passes C4 112 = D at *
        rcases dd with ⟨d1, d2, R6, S6⟩ | ⟨d1, d2, R6, S6⟩
        · rw [if_pos d1, if_pos d2]
          have O6 := O5.sm S6
          generalize up3 M4 0 0 2 (M4 0 0 2 + 1) = M5 at *
          have ee := rn_ok (g := 3) (p2 := 0) (p3 := 400) R6 (Or.inl rfl)
          generalize x_X4_readNumber M5 3 0 400 = N at *
          generalize x_X7_readsNumber D.1 3 0 400 = E at *
          rcases ee with ⟨t1, t2, R7, S7, t5, -⟩ | ⟨t1, t2, t3⟩
          · rw [if_pos t1, if_pos t2]
            have O7 := O6.sm S7
            have R8 : TR (up3 N.1 5 0 r (N.1 0 0 3)) (up3 E.1 6 0 (5 * r + 4) (E.1 0 0 5)) := (R7.cls (by decide)).mod
            have O8 : OT r (up3 N.1 5 0 r (N.1 0 0 3)) T (up3 E.1 6 0 (5 * r + 4) (E.1 0 0 5)) μ := (O7.cls (by decide)).mod (by omega)
            refine pl_end R8 O8 (W _ _ (fun f f0 f5 => ?_) (fun k hk => ?_) ?_) rfl rfl
            · rw [up3_fam f5, S7.1 f f0, S6.1 f f0, s2 f f5]
            · rw [up3_ne (by simp [hk]), S7.2.2.1 6 (by decide), S6.2.2.1 6 (by decide), s1 k hk]
            · rw [up3_self, up3_self, t5]
          · rw [if_neg t1, if_neg (by rw [t2]; decide)]
            exact Or.inr ⟨t1, rfl, t3⟩
        · rw [if_neg d1, if_neg (by rw [d2]; decide)]
          have O6 := O5.sm S6
          refine pl_end R6 O6 (W _ _ (fun f f0 f5 => s2 f f5) (fun k hk => ?_) ?_) rfl rfl
          · rw [S6.2.2.1 6 (by decide), s1 k hk]
          · rw [S6.2.2.1 6 (by decide), s3]
      · rw [if_neg m1, if_neg (by rw [m2.1]; decide)]
        exact Or.inr ⟨m1, rfl, m2.2⟩
      · rw [if_neg m1, if_pos m2.1, if_neg (by rw [m2.2.1]; decide)]
        exact Or.inr ⟨m1, rfl, m2.2.2⟩
      · rw [if_neg m1, if_pos m2.1, if_pos m2.2.1, if_neg (by rw [m2.2.2.1]; decide)]
        exact Or.inr ⟨m1, rfl, m2.2.2.2⟩
    · rw [o2, if_pos (show true = true from rfl), if_neg (by rw [bad.2.1]; decide)]
      exact Or.inr ⟨bad.1, rfl, bad.2.2⟩
  · rw [o, if_pos (show true = true from rfl), if_neg (by rw [bad.2.1]; decide)]
    exact Or.inr ⟨bad.1, rfl, bad.2.2⟩
end PLN
