/-! arrivals, tows and pushbacks, one at a time -/
def GX (m : Mem) : Prop := GS m ∧ SM m ∧ DS m
section EVN
variable {m m' n s : Mem} {w v d c : Int32} {j p q k t i K f : Nat}
theorem GS.of4 (h : GS m) (e : ∀ f, f < 4 → n f = m f) : GS n := by
  unfold GS PF
  rw [e 0 (by decide), e 1 (by decide), e 2 (by decide), e 3 (by decide)]
  exact h
theorem SM.of4 (h : SM m) (e : ∀ f, f < 4 → n f = m f) : SM n := by
  unfold SM
  rw [e 0 (by decide), e 1 (by decide), e 3 (by decide)]
  exact h
theorem DS.of4 (h : DS m) (e : ∀ f, f < 4 → n f = m f) : DS n := by
  unfold DS
  rw [e 0 (by decide), e 1 (by decide), e 2 (by decide)]
  exact h
theorem GX.put {a b c : Int32} (h : GX m) : GX (x_X2_put m a b c) := ⟨h.1.of4 (fun f hf => put_f hf), h.2.1.of4 (fun f hf => put_f hf), h.2.2.of4 (fun f hf => put_f hf)⟩
theorem DS.up (h : DS m) (hk : f = 3 ∨ (f = 1 ∧ k ≠ 0) ∨ (f = 2 ∧ k ≠ 0) ∨ (f = 0 ∧ 2 ≤ k)) : DS (up3 m f i k v) := by
  unfold DS
  rw [up3_ne (f' := 0) (k' := 0) (by omega), up3_ne (f' := 0) (k' := 1) (by omega)]
  refine ⟨fun a b ha hb e => ?_, fun a b ha hb e => ?_⟩
  · rw [up3_ne (by omega), up3_ne (by omega)] at e
    exact h.1 a b ha hb e
  · rw [up3_ne (by omega), up3_ne (by omega)] at e
    exact h.2 a b ha hb e
theorem SM.up (h : SM m) (hk : (f = 3 ∧ k ≠ 8) ∨ (f = 1 ∧ k ≠ 2) ∨ f = 2 ∨ (f = 0 ∧ 3 ≤ k)) : SM (up3 m f i k v) := by
  unfold SM
  rw [up3_ne (f' := 0) (k' := 0) (by omega), up3_ne (f' := 0) (k' := 2) (by omega), show (fun p => up3 m f i k v 3 p 8) = fun p => m 3 p 8 from funext fun p => up3_ne (by omega), show (fun p => up3 m f i k v 1 p 2) = fun p => m 1 p 2 from funext fun p => up3_ne (by omega)]
  exact h
/-- an aircraft's slot that nothing rests on -/
theorem GS.upA (h : GS m) (hk : k ≠ 0 ∧ k ≠ 1 ∧ k ≠ 5 ∧ k ≠ 6 ∧ k ≠ 7) : GS (up3 m 3 p k v) := by
  obtain ⟨gS, gN, gD, gT, gU⟩ := h
  have e0 : ∀ z, up3 m 3 p k v 0 0 z = m 0 0 z := fun z => up3_ne (by omega)
  have e1 : up3 m 3 p k v 1 = m 1 := up3_fam (by decide)
  have e2 : up3 m 3 p k v 2 = m 2 := up3_fam (by decide)
  have e3 : ∀ q z, (z = 0 ∨ z = 1 ∨ z = 5 ∨ z = 6 ∨ z = 7) → up3 m 3 p k v 3 q z = m 3 q z := fun q z hz => up3_ne (by omega)
  have pf : ∀ j, PF (up3 m 3 p k v) j ↔ PF m j := fun j => by
    unfold PF
    rw [e1, e3 _ 5 (by omega)]
  unfold GS
  rw [e0, e0, e0, e1, e2]
  refine ⟨fun j q hj hq hh e => ?_, fun j hj g => gN j hj ⟨(pf j).mp g.1, (pf (j + 1)).mp g.2⟩, fun q hq => ?_, fun t ht => ⟨(gT t ht).1, fun q hq e => ?_⟩, gU⟩
  · rw [e3 q 5 (by omega)] at hh
    rw [e3 q 6 (by omega)] at e
    rw [e3 q 0 (by omega)]
    exact gS j q hj hq hh e
  · rw [e3 q 5 (by omega), e3 q 7 (by omega)]
    exact gD q hq
  · rw [e3 q 5 (by omega), e3 q 1 (by omega)]
    exact (gT t ht).2 q hq e
theorem GX.buses (h : GX m) : GX (x_X0_takeBuses m p) := by
  rw [x_X0_takeBuses_eq]
  unfold y_X0_takeBuses
  exact ⟨h.1.upA (by decide), h.2.1.up (Or.inl ⟨rfl, by decide⟩), h.2.2.up (Or.inl rfl)⟩
/-- an aircraft without a stand takes another place, not pushed back -/
theorem GX.place (h : GX m) (hI : IN m) (hj : j < ix (m 0 0 2)) (hs : m 3 j 6 = -1) (h0 : m 3 j 5 = 0 ∨ m 3 j 5 = 2) (hv : v = 2) : GX (up3 m 3 j 5 v) := by
  obtain ⟨⟨gS, gN, gD, gT, gU⟩, hM, hD⟩ := h
  have ba := hI.na.2
  have bs := hI.ns.2
  refine ⟨?_, hM.up (Or.inl ⟨rfl, by decide⟩), hD.up (Or.inl rfl)⟩
  have e0 : ∀ z, up3 m 3 j 5 v 0 0 z = m 0 0 z := fun z => up3_ne (by omega)
  have e1 : up3 m 3 j 5 v 1 = m 1 := up3_fam (by decide)
  have e2 : up3 m 3 j 5 v 2 = m 2 := up3_fam (by decide)
  have e3 : ∀ q z, z ≠ 5 → up3 m 3 j 5 v 3 q z = m 3 q z := fun q z hz => up3_ne (by omega)
  have e5 : ∀ q, q ≠ j → up3 m 3 j 5 v 3 q 5 = m 3 q 5 := fun q hq => up3_ne (by omega)
  have nst : ∀ i, i < ix (m 0 0 0) → ¬ m 1 i 1 = nI j := fun i hi e => by
    have := (hI.2.1.2.1 i j hi hj).mpr e
    have e6 : m 3 j 6 = nI i := this.2
    rw [hs] at e6
    exact nI_n1 (by omega) e6.symm
  have pf : ∀ i, i < ix (m 0 0 0) → PF (up3 m 3 j 5 v) i → PF m i := fun i hi g => by
    unfold PF at g ⊢
    rw [e1] at g
    obtain ⟨p, hp, e⟩ := (hI.st hi).resolve_left g.1
    rw [e, ix_nI (by omega)] at g ⊢
    rw [e5 p (fun z => nst i hi (by rw [e, z]))] at g
    exact g
  unfold GS
  rw [e0, e0, e0, e1, e2]
  refine ⟨fun i q hi hq hh e => ?_, fun i hi g => gN i hi ⟨pf i (by omega) g.1, pf (i + 1) hi g.2⟩, fun q hq => ?_, fun t ht => ⟨(gT t ht).1, fun q hq e => ?_⟩, gU⟩
  · rw [e3 q 6 (by decide)] at e
    rw [e3 q 0 (by decide)]
    by_cases g : q = j
    · subst g
      rw [hs] at e
      exact absurd e.symm (nI_n1 (by omega))
    · rw [e5 q g] at hh
      exact gS i q hi hq hh e
  · rw [e3 q 7 (by decide)]
    by_cases g : q = j
    · subst g
      rw [up3_self, hv]
      exact ⟨fun z => absurd z (by decide), fun _ => (gD q hq).2 (by rcases h0 with z | z <;> rw [z] <;> decide)⟩
    · rw [e5 q g]
      exact gD q hq
  · have z := (gT t ht).2 q hq e
    have g : q ≠ j := fun g => by
      subst g
      rcases z.1 with y | y <;> rcases h0 with x | x <;> rw [x] at y <;> exact absurd y (by decide)
    rw [e5 q g, e3 q 1 (by decide)]
    exact z
/-- an aircraft without a stand gets one -/
theorem GX.stand (h : GX m) (hI : IN m) (hj : j < ix (m 0 0 2)) (hi : i < ix (m 0 0 0)) (hs : m 3 j 6 = -1) (hf : m 1 i 1 = -1) (hw : ¬ m 1 i 0 < m 3 j 0) (h0 : m 3 j 5 = 0 ∨ m 3 j 5 = 2) (hv : v = 1 ∨ v = 3) : GX (up3 (up3 (up3 m 3 j 5 v) 3 j 6 (nI i)) 1 i 1 (nI j)) := by
  obtain ⟨⟨gS, gN, gD, gT, gU⟩, hM, hD⟩ := h
  have ba := hI.na.2
  have bs := hI.ns.2
  refine ⟨?_, ((hM.up (Or.inl ⟨rfl, by decide⟩)).up (Or.inl ⟨rfl, by decide⟩)).up (Or.inr (Or.inl ⟨rfl, by decide⟩)), ((hD.up (Or.inl rfl)).up (Or.inl rfl)).up (Or.inr (Or.inl ⟨rfl, by decide⟩))⟩
  have e0 : ∀ z, up3 (up3 (up3 m 3 j 5 v) 3 j 6 (nI i)) 1 i 1 (nI j) 0 0 z = m 0 0 z := fun z => by rw [up3_ne (by omega), up3_ne (by omega), up3_ne (by omega)]
  have e10 : ∀ a, up3 (up3 (up3 m 3 j 5 v) 3 j 6 (nI i)) 1 i 1 (nI j) 1 a 0 = m 1 a 0 := fun z => by rw [up3_ne (by omega), up3_ne (by omega), up3_ne (by omega)]
  have e11 : ∀ a, a ≠ i → up3 (up3 (up3 m 3 j 5 v) 3 j 6 (nI i)) 1 i 1 (nI j) 1 a 1 = m 1 a 1 := fun z hz => by rw [up3_ne (by omega), up3_ne (by omega), up3_ne (by omega)]
  have e1i : up3 (up3 (up3 m 3 j 5 v) 3 j 6 (nI i)) 1 i 1 (nI j) 1 i 1 = nI j := up3_self _ _ _ _ _
  have e2 : up3 (up3 (up3 m 3 j 5 v) 3 j 6 (nI i)) 1 i 1 (nI j) 2 = m 2 := by rw [up3_fam (by decide), up3_fam (by decide), up3_fam (by decide)]
  have e3 : ∀ q z, z ≠ 5 → z ≠ 6 → up3 (up3 (up3 m 3 j 5 v) 3 j 6 (nI i)) 1 i 1 (nI j) 3 q z = m 3 q z := fun q z hz h6 => by rw [up3_ne (by omega), up3_ne (by omega), up3_ne (by omega)]
  have e5 : ∀ q z, q ≠ j → up3 (up3 (up3 m 3 j 5 v) 3 j 6 (nI i)) 1 i 1 (nI j) 3 q z = m 3 q z := fun q z hq => by rw [up3_ne (by omega), up3_ne (by omega), up3_ne (by omega)]
  have e5j : up3 (up3 (up3 m 3 j 5 v) 3 j 6 (nI i)) 1 i 1 (nI j) 3 j 5 = v := by rw [up3_ne (by omega), up3_ne (by omega), up3_self]
  have e6j : up3 (up3 (up3 m 3 j 5 v) 3 j 6 (nI i)) 1 i 1 (nI j) 3 j 6 = nI i := by rw [up3_ne (by omega), up3_self]
  generalize up3 (up3 (up3 m 3 j 5 v) 3 j 6 (nI i)) 1 i 1 (nI j) = x at e0 e10 e11 e1i e2 e3 e5 e5j e6j ⊢
  have nst : ∀ i, i < ix (m 0 0 0) → ¬ m 1 i 1 = nI j := fun i hi e => by
    have := (hI.2.1.2.1 i j hi hj).mpr e
    have e6 : m 3 j 6 = nI i := this.2
    rw [hs] at e6
    exact nI_n1 (by omega) e6.symm
  have pf : ∀ a, a < ix (m 0 0 0) → PF x a → PF m a := fun a ha g => by
    unfold PF at g ⊢
    by_cases ea : a = i
    · subst ea
      rw [e1i, ix_nI (by omega), e5j] at g
      rcases hv with z | z <;> rw [z] at g <;> exact absurd g.2 (by decide)
    · rw [e11 a ea] at g
      obtain ⟨p, hp, e⟩ := (hI.st ha).resolve_left g.1
      rw [e, ix_nI (by omega)] at g ⊢
      rw [e5 p 5 (fun z => nst a ha (by rw [e, z]))] at g
      exact g
  unfold GS
  rw [e0, e0, e0, e2]
  refine ⟨fun a q ha hq hh e => ?_, fun a ha g => gN a ha ⟨pf a (by omega) g.1, pf (a + 1) ha g.2⟩, fun q hq => ?_, fun t ht => ⟨(gT t ht).1, fun q hq e => ?_⟩, gU⟩
  · rw [e10, e3 q 0 (by decide) (by decide)]
    by_cases g : q = j
    · subst g
      rw [e6j] at e
      have := nI_inj (by omega) (by omega) e
      subst this
      exact hw
    · rw [e5 q 5 g] at hh
      rw [e5 q 6 g] at e
      exact gS a q ha hq hh e
  · rw [e3 q 7 (by decide) (by decide)]
    by_cases g : q = j
    · subst g
      rw [e5j]
      refine ⟨fun z => ?_, fun _ => (gD q hq).2 (by rcases h0 with z | z <;> rw [z] <;> decide)⟩
      rcases hv with y | y <;> rw [y] at z <;> exact absurd z (by decide)
    · rw [e5 q 5 g]
      exact gD q hq
  · have z := (gT t ht).2 q hq e
    have g : q ≠ j := fun g => by
      subst g
      rcases z.1 with y | y <;> rcases h0 with x | x <;> rw [x] at y <;> exact absurd y (by decide)
    rw [e5 q 5 g, e3 q 1 (by decide) (by decide)]
    exact z
/-- an aircraft's pushback begins -/
theorem GX.push (h : GX m) (hI : IN m) (hq : q < ix (m 0 0 2)) (h0 : m 3 q 5 = 1 ∨ m 3 q 5 = 2) (hd : VN 20000 d) (hn : ∀ j, j < ix (m 0 0 0) → m 3 q 6 = nI j → (∀ i, i + 1 = j → ¬ PF m i) ∧ (j + 1 < ix (m 0 0 0) → ¬ PF m (j + 1))) : GX (up3 (up3 m 3 q 5 4) 3 q 7 d) := by
  obtain ⟨⟨gS, gN, gD, gT, gU⟩, hM, hD⟩ := h
  have ba := hI.na.2
  have bs := hI.ns.2
  refine ⟨?_, (hM.up (Or.inl ⟨rfl, by decide⟩)).up (Or.inl ⟨rfl, by decide⟩), (hD.up (Or.inl rfl)).up (Or.inl rfl)⟩
  have e0 : ∀ z, up3 (up3 m 3 q 5 4) 3 q 7 d 0 0 z = m 0 0 z := fun z => by rw [up3_ne (by omega), up3_ne (by omega)]
  have e1 : up3 (up3 m 3 q 5 4) 3 q 7 d 1 = m 1 := by rw [up3_fam (by decide), up3_fam (by decide)]
  have e2 : up3 (up3 m 3 q 5 4) 3 q 7 d 2 = m 2 := by rw [up3_fam (by decide), up3_fam (by decide)]
  have e3 : ∀ p z, z ≠ 5 → z ≠ 7 → up3 (up3 m 3 q 5 4) 3 q 7 d 3 p z = m 3 p z := fun p z a b => by rw [up3_ne (by omega), up3_ne (by omega)]
  have e5 : ∀ p z, p ≠ q → up3 (up3 m 3 q 5 4) 3 q 7 d 3 p z = m 3 p z := fun p z a => by rw [up3_ne (by omega), up3_ne (by omega)]
  have e5q : up3 (up3 m 3 q 5 4) 3 q 7 d 3 q 5 = 4 := by rw [up3_ne (by omega), up3_self]
  have e7q : up3 (up3 m 3 q 5 4) 3 q 7 d 3 q 7 = d := up3_self _ _ _ _ _
  generalize up3 (up3 m 3 q 5 4) 3 q 7 d = x at e0 e1 e2 e3 e5 e5q e7q ⊢
  have pf : ∀ a, a < ix (m 0 0 0) → PF x a → PF m a ∨ m 3 q 6 = nI a := fun a ha g => by
    unfold PF at g ⊢
    rw [e1] at g
    obtain ⟨p, hp, e⟩ := (hI.st ha).resolve_left g.1
    by_cases c : p = q
    · subst c
      exact Or.inr ((hI.2.1.2.1 a p ha hp).mpr e).2
    · rw [e, ix_nI (by omega)] at g ⊢
      rw [e5 p 5 c] at g
      exact Or.inl g
  unfold GS
  rw [e0, e0, e0, e1, e2]
  refine ⟨fun a p ha hp hh e => ?_, fun a ha g => ?_, fun p hp => ?_, fun t ht => ⟨(gT t ht).1, fun p hp e => ?_⟩, gU⟩
  · rw [e3 p 6 (by decide) (by decide)] at e
    rw [e3 p 0 (by decide) (by decide)]
    by_cases c : p = q
    · subst c
      rcases h0 with z | z
      · exact gS a p ha hp (Or.inl z) e
      · rcases hI.2.1.1 p hp with y | y
        · have y2 : m 3 p 6 = -1 := y.2
          rw [y2] at e
          exact absurd e.symm (nI_n1 (by omega))
        · exact absurd z (hp_n y.1).2.1
    · rw [e5 p 5 c] at hh
      exact gS a p ha hp hh e
  · rcases pf a (by omega) g.1 with y | y
    · rcases pf (a + 1) ha g.2 with z | z
      · exact gN a ha ⟨y, z⟩
      · exact (hn (a + 1) ha z).1 a rfl y
    · rcases pf (a + 1) ha g.2 with z | z
      · exact (hn a (by omega) y).2 ha z
      · rw [y] at z
        have := nI_inj (by omega) (by omega) z
        omega
  · by_cases c : p = q
    · subst c
      rw [e5q, e7q]
      exact ⟨fun _ => hd, fun z => absurd (Or.inl rfl) z⟩
    · rw [e5 p 5 c, e5 p 7 c]
      exact gD p hp
  · have z := (gT t ht).2 p hp e
    have g : p ≠ q := fun g => by
      subst g
      rcases z.1 with y | y <;> rcases h0 with x | x <;> rw [x] at y <;> exact absurd y (by decide)
    rw [e5 p 5 g, e3 p 1 (by decide) (by decide)]
    exact z
/-- a free tug takes an aircraft that is towed or pushed back -/
theorem GX.take (h : GX m) (bt : ix (m 0 0 1) ≤ 3) (ba : ix (m 0 0 2) ≤ 12) (hq : q < 12) (ht : t < ix (m 0 0 1)) (hf : m 2 t 1 = -1) (h0 : m 3 q 5 = 3 ∨ m 3 q 5 = 4) (hw : ¬ m 2 t 0 < m 3 q 1) (hn : ∀ t', t' < ix (m 0 0 1) → ¬ m 2 t' 1 = nI q) (hk : k = 3 ∨ k = 4) : GX (up3 (x_X5_take m t (nI q) c) 2 t k d) := by
  obtain ⟨⟨gS, gN, gD, gT, gU⟩, hM, hD⟩ := h
  rw [x_X5_take_eq]
  unfold y_X5_take
  refine ⟨?_, ((hM.up (Or.inr (Or.inr (Or.inl rfl)))).up (Or.inr (Or.inr (Or.inl rfl)))).up (Or.inr (Or.inr (Or.inl rfl))), ((hD.up (Or.inr (Or.inr (Or.inl ⟨rfl, by decide⟩)))).up (Or.inr (Or.inr (Or.inl ⟨rfl, by decide⟩)))).up (Or.inr (Or.inr (Or.inl ⟨rfl, by omega⟩)))⟩
  have ef : ∀ f, f ≠ 2 → up3 (up3 (up3 m 2 t 1 (nI q)) 2 t 2 c) 2 t k d f = m f := fun f hf => by rw [up3_fam hf, up3_fam hf, up3_fam hf]
  have eo : ∀ a z, a ≠ t → up3 (up3 (up3 m 2 t 1 (nI q)) 2 t 2 c) 2 t k d 2 a z = m 2 a z := fun a z ha => by rw [up3_ne (by omega), up3_ne (by omega), up3_ne (by omega)]
  have e0 : ∀ a, up3 (up3 (up3 m 2 t 1 (nI q)) 2 t 2 c) 2 t k d 2 a 0 = m 2 a 0 := fun a => by rw [up3_ne (by omega), up3_ne (by omega), up3_ne (by omega)]
  have e1 : up3 (up3 (up3 m 2 t 1 (nI q)) 2 t 2 c) 2 t k d 2 t 1 = nI q := by rw [up3_ne (by omega), up3_ne (by omega), up3_self]
  generalize up3 (up3 (up3 m 2 t 1 (nI q)) 2 t 2 c) 2 t k d = x at ef eo e0 e1 ⊢
  unfold GS PF
  rw [ef 0 (by decide), ef 1 (by decide), ef 3 (by decide)]
  refine ⟨gS, gN, gD, fun a ha => ?_, fun a b ha hb e n => ?_⟩
  · by_cases g : a = t
    · subst g
      refine ⟨fun z => ?_, fun p hp z => ?_⟩
      · rw [e1] at z
        exact absurd z (nI_n1 (by omega))
      · rw [e1] at z
        have := nI_inj (by omega) (by omega) z
        subst this
        rw [e0]
        exact ⟨h0, hw⟩
    · rw [eo a 1 g, eo a 2 g, e0]
      exact gT a ha
  · by_cases g : a = t
    · by_cases g2 : b = t
      · rw [g, g2]
      · subst g
        rw [e1, eo b 1 g2] at e
        exact absurd e.symm (hn b hb)
    · by_cases g2 : b = t
      · subst g2
        rw [e1, eo a 1 g] at e
        exact absurd e (hn a ha)
      · rw [eo a 1 g, eo b 1 g2] at e
        rw [eo a 1 g] at n
        exact gU a b ha hb e n
/-- no tug has an aircraft that is neither towed nor pushed back -/
theorem GS.free (h : GS m) (hq : q < ix (m 0 0 2)) (h0 : ¬ (m 3 q 5 = 3 ∨ m 3 q 5 = 4)) : ∀ t, t < ix (m 0 0 1) → ¬ m 2 t 1 = nI q := fun t ht e => h0 ((h.2.2.2.1 t ht).2 q hq e).1
end EVN
/-! the bodies of the loops -/
section EVB
variable {m m' n s : Mem} {w v d c : Int32} {j p q k t i K f : Nat}
theorem rc_twb (h : TWN m m') (hD : DS m) (hj : j < ix (m 0 0 2)) : TWN (bd_X1_receive_2 j m) (bd_X1_receive_2 j m') := by
  unfold bd_X1_receive_2
  rw [h.a hj (k := 5) (by decide) (by decide), h.a hj (k := 2) (by decide) (by decide), h.a hj (k := 0) (by decide) (by decide), h.c (z := 3) (by decide), fs_tw h hD]
  by_cases h1 : m 3 j 5 = 0
  · rw [if_pos h1, if_pos h1]
    by_cases h2 : m 0 0 3 < m 3 j 2
    · rw [if_pos h2, if_pos h2]
      exact h
    · rw [if_neg h2, if_neg h2]
      rcases fs_spec (m := m) (w := m 3 j 0) (by rw [h.ns]; omega) with ⟨e, -⟩ | ⟨i, hi, e, -⟩
      · rw [e, tu_n, if_pos rfl, if_pos rfl]
        exact ((h.wA (by decide)).buses (by rw [up3_ne (by omega)]; exact hj)).put
      · rw [h.ns] at hi
        rw [e, tu_j hi, if_neg (nI_n1 (by omega)), if_neg (nI_n1 (by omega)), ix_nI (by omega), ix_nI (by omega)]
        exact (((h.wA (by decide)).w6 (tu_j hi).symm).wS hi).put
  · rw [if_neg h1, if_neg h1]
    exact h
theorem rc_gxb (h : GX m) (hI : IN m) (hj : j < ix (m 0 0 2)) : GX (bd_X1_receive_2 j m) := by
  unfold bd_X1_receive_2
  by_cases h1 : m 3 j 5 = 0
  · rw [if_pos h1]
    have hs : m 3 j 6 = -1 := (hI.2.1.1 j hj).elim (fun z => z.2) (fun z => absurd h1 (hp_n z.1).1)
    by_cases h2 : m 0 0 3 < m 3 j 2
    · rw [if_pos h2]
      exact h
    · rw [if_neg h2]
      rcases fs_spec (m := m) (w := m 3 j 0) hI.ns.2 with ⟨e, -⟩ | ⟨i, hi, e, g1, g2, -⟩
      · rw [if_pos e]
        exact ((h.place hI hj hs (Or.inl h1) rfl).buses).put
      · have := hI.ns.2
        rw [if_neg (by rw [e]; exact nI_n1 (by omega)), e, ix_nI (by omega)]
        exact (h.stand hI hj hi hs g1 g2 (Or.inl h1) (Or.inl rfl)).put
  · rw [if_neg h1]
    exact h
theorem tw_twb (h : TWN m m') (hD : DS m) (hj : j < ix (m 0 0 2)) : TWN (bd_X1_tow_2 j m) (bd_X1_tow_2 j m') := by
  unfold bd_X1_tow_2
  rw [h.a hj (k := 5) (by decide) (by decide), h.a hj (k := 3) (by decide) (by decide), h.a hj (k := 0) (by decide) (by decide), h.a hj (k := 1) (by decide) (by decide), h.c (z := 3) (by decide), fs_tw h hD, ft_tw h hD]
  by_cases h1 : m 3 j 5 = 2
  · rw [if_pos h1, if_pos h1]
    by_cases h2 : m 0 0 3 + 30 < m 3 j 3
    · rw [if_pos h2, if_pos h2]
      rcases fs_spec (m := m) (w := m 3 j 0) (by rw [h.ns]; omega) with ⟨e, -⟩ | ⟨i, hi, e, -⟩
      · rw [e, tu_n, if_pos rfl, if_pos rfl]
        exact h
      · rw [h.ns] at hi
        rw [e, tu_j hi, if_neg (nI_n1 (by omega)), if_neg (nI_n1 (by omega)), ix_nI (by omega), ix_nI (by omega)]
        rcases ft_spec (m := m) (w := m 3 j 1) (by rw [h.nt]; omega) with ⟨e2, -⟩ | ⟨t, ht, e2, -⟩
        · rw [e2, show tv3 (-1) = -1 from rfl, if_pos rfl, if_pos rfl]
          exact h
        · rw [h.nt] at ht
          rw [e2, tv_j ht, if_neg (nI_n1 (by omega)), if_neg (nI_n1 (by omega)), ix_nI (by omega), ix_nI (by omega)]
          have T := (((h.wA (p := j) (k := 5) (v := 3) (by decide)).w6 (p := j) (tu_j hi).symm).wS hi (k := 1) (v := nI j)).take ht (w := nI j) (v := 10)
          have e4 := T.u ht (k := 4) (by decide)
          rw [e4]
          exact (T.wT ht).put
    · rw [if_neg h2, if_neg h2]
      exact h
  · rw [if_neg h1, if_neg h1]
    exact h
theorem tw_gxb (h : GX m) (hI : IN m) (hj : j < ix (m 0 0 2)) : GX (bd_X1_tow_2 j m) := by
  have bs := hI.ns.2
  have bt := hI.nt.2
  have ba := hI.na.2
  unfold bd_X1_tow_2
  by_cases h1 : m 3 j 5 = 2
  · rw [if_pos h1]
    have hs : m 3 j 6 = -1 := (hI.2.1.1 j hj).elim (fun z => z.2) (fun z => absurd h1 (hp_n z.1).2.1)
    by_cases h2 : m 0 0 3 + 30 < m 3 j 3
    · rw [if_pos h2]
      rcases fs_spec (m := m) (w := m 3 j 0) hI.ns.2 with ⟨e, -⟩ | ⟨i, hi, e, g1, g2, -⟩
      · rw [if_pos e]
        exact h
      · rw [if_neg (by rw [e]; exact nI_n1 (by omega)), e, ix_nI (by omega)]
        rcases ft_spec (m := m) (w := m 3 j 1) hI.nt.2 with ⟨e2, -⟩ | ⟨t, ht, e2, f1, f2, -⟩
        · rw [if_pos e2]
          exact h
        · rw [if_neg (by rw [e2]; exact nI_n1 (by omega)), e2, ix_nI (by omega)]
          have fr := h.1.free hj (by rw [h1]; decide)
          have X := h.stand hI hj hi hs g1 g2 (Or.inr h1) (Or.inr rfl) (v := 3)
          have e0 : ∀ z, up3 (up3 (up3 m 3 j 5 3) 3 j 6 (nI i)) 1 i 1 (nI j) 0 0 z = m 0 0 z := fun z => by rw [up3_ne (by omega), up3_ne (by omega), up3_ne (by omega)]
          have e2' : up3 (up3 (up3 m 3 j 5 3) 3 j 6 (nI i)) 1 i 1 (nI j) 2 = m 2 := by rw [up3_fam (by decide), up3_fam (by decide), up3_fam (by decide)]
          have e5j : up3 (up3 (up3 m 3 j 5 3) 3 j 6 (nI i)) 1 i 1 (nI j) 3 j 5 = 3 := by rw [up3_ne (by omega), up3_ne (by omega), up3_self]
          have e1j : up3 (up3 (up3 m 3 j 5 3) 3 j 6 (nI i)) 1 i 1 (nI j) 3 j 1 = m 3 j 1 := by rw [up3_ne (by omega), up3_ne (by omega), up3_ne (by omega)]
          exact (X.take (by rw [e0]; exact bt) (by rw [e0]; exact ba) (by omega) (by rw [e0]; exact ht) (by rw [e2']; exact f1) (Or.inl e5j) (by rw [e2', e1j]; exact f2) (by rw [e0, e2']; exact fr) (Or.inr rfl)).put
    · rw [if_neg h2]
      exact h
  · rw [if_neg h1]
    exact h
end EVB
