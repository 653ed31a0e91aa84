/-! the phases of a minute, but the pushbacks -/
def RB (B : Nat) (m μ : Mem) : Prop := RR m μ ∧ VN B (m 4 0 0)
theorem vn_d {x : Int32} (h : VN 10 x) (g : ¬ x = 0) : VN 10 (x - 1) := by
  have b := h.2
  have e := h.1
  have n0 : ix x ≠ 0 := fun z => g (by rw [e, z]; rfl)
  have e2 : x - 1 = nI (ix x - 1) := by
    conv => lhs; rw [e]
    exact pk_sub (b := 1) (by omega)
  unfold VN
  rw [e2, ix_nI (by omega)]
  exact ⟨rfl, by omega⟩
theorem put_sw {m : Mem} {p1 p2 p3 v : Int32} {i k : Nat} : up3 (x_X2_put m p1 p2 p3) 2 i k v = x_X2_put (up3 m 2 i k v) p1 p2 p3 := by
  rw [x_X2_put_eq]
  unfold y_X2_put
  have e : up3 m 2 i k v 4 0 0 = m 4 0 0 := up3_ne (by simp)
  rw [e]
  rw [up3_sw (f := 4) (f' := 2) (by decide), up3_sw (f := 7) (f' := 2) (by decide), up3_sw (f := 6) (f' := 2) (by decide), up3_sw (f := 5) (f' := 2) (by decide)]
  have e2 : ∀ a b c, up3 (up3 (up3 (up3 m 2 i k v) 5 0 (ix (m 4 0 0) % 30) a) 6 0 (ix (m 4 0 0) % 30) b) 7 0 (ix (m 4 0 0) % 30) c 4 0 0 = up3 (up3 (up3 m 5 0 (ix (m 4 0 0) % 30) a) 6 0 (ix (m 4 0 0) % 30) b) 7 0 (ix (m 4 0 0) % 30) c 4 0 0 := by
    intro a b c
    rw [up3_ne (by simp), up3_ne (by simp), up3_ne (by simp), up3_ne (by simp), up3_ne (by simp), up3_ne (by simp), up3_ne (by simp)]
  rw [e2]
section PHS
variable {m μ : Mem} {B j p q : Nat}
/-- a tug's minute -/
theorem wt_body (h : RB B m μ) (hB : B + 1 < 2 ^ 31) (hj : j < ix (m 0 0 1)) : RB (B + 1) (bd_X1_workTugs_2 j m) (bd_X7_tugs_2 j μ) ∧ bd_X1_workTugs_2 j m 0 = m 0 := by
  obtain ⟨⟨hV, hI⟩, hv⟩ := h
  have bs := hI.ns.2
  have bt := hI.nt.2
  have ba := hI.na.2
  obtain ⟨t1, t2, t3⟩ := hI.2.2.1 j hj
  unfold bd_X1_workTugs_2 bd_X7_tugs_2
  rw [← hV.t (k := 1) hj (by decide), ← hV.t (k := 2) hj (by decide), up3_self, up3_self, up3_ne (m := m) (f' := 2) (k' := 1) (by simp)]
  by_cases h1 : m 2 j 1 = -1
  · rw [if_pos h1, if_pos h1]
    exact ⟨⟨⟨hV, hI⟩, ⟨hv.1, Nat.le_succ_of_le hv.2⟩⟩, rfl⟩
  · rw [if_neg h1, if_neg h1]
    obtain ⟨p, hp, ep⟩ := t1.resolve_left h1
    have hz : ¬ m 2 j 2 = 0 := t3 h1
    have V1 := hV.upT (t := j) (k := 2) (v := m 2 j 2 - 1) bs (by omega) (by decide)
    by_cases h2 : m 2 j 2 - 1 = 0
    · rw [if_pos h2, if_pos h2, ep, ix_nI (by omega), of_eq, of_eq, x_X1_finish_eq]
      unfold y_X1_finish
      have V2 := V1.upT (t := j) (k := 1) (v := -1) (by rw [up3_ne (by simp)]; exact bs) (by omega) (by decide)
      have e5 : up3 m 2 j 2 (m 2 j 2 - 1) 3 p 5 = m 3 p 5 := up3_ne (by simp)
      have e6 : ∀ v, up3 (up3 m 2 j 2 (m 2 j 2 - 1)) 3 p 5 v 3 p 6 = m 3 p 6 := fun v => by rw [up3_ne (by simp), up3_ne (by simp)]
      have e5' : up3 (up3 μ 1 0 (20 + 5 * j + 2) (m 2 j 2 - 1)) 1 0 (20 + 5 * j + 1) (-1) 1 0 (35 + 10 * p + 5) = m 3 p 5 := by
        rw [up1, if_neg (by omega), up1, if_neg (by omega)]
        exact (hV.a hp (by decide)).symm
      have HJ0 := hI.2.1
      have pl := HJ0.1 p hp
      have ITn : ∀ m' : Mem, (∀ q, q ≠ j → m' 2 q = m 2 q) → m' 2 j 1 = -1 → m' 2 j 2 = m 2 j 2 - 1 → IT (ix (m 0 0 1)) (ix (m 0 0 2)) m' := fun m' h1 h2 h3 => hI.2.2.1.set h1 (fun _ => ⟨Or.inl h2, by rw [h3]; exact vn_d t2 hz, fun z => absurd h2 z⟩)
      have vt : ∀ m' : Mem, m' 4 0 0 = m 4 0 0 → ∀ a b c, VN (B + 1) (x_X2_put m' a b c 4 0 0) := fun m' e a b c => by
        rw [put_4, e]
        exact (vn_s hv hB).1
      rw [e5, e5']
      by_cases h3 : m 3 p 5 = 3
      · rw [if_pos h3, if_pos h3, put_sw, up3_id]
        rw [up3_sw (f := 3) (f' := 2) (by decide)]
        have V3 := V2.upA (p := p) (k := 5) (v := 1) (by rw [up3_ne (by simp), up3_ne (by simp)]; exact bs) (by rw [up3_ne (by simp), up3_ne (by simp)]; exact bt) (by omega) (by decide)
        have e4 : up3 (up3 (up3 m 2 j 2 (m 2 j 2 - 1)) 2 j 1 (-1)) 3 p 5 1 4 0 0 = m 4 0 0 := by rw [up3_ne (by simp), up3_ne (by simp), up3_ne (by simp)]
        have e0 : up3 (up3 (up3 m 2 j 2 (m 2 j 2 - 1)) 2 j 1 (-1)) 3 p 5 1 0 = m 0 := by rw [up3_fam (by decide), up3_fam (by decide), up3_fam (by decide)]
        refine ⟨⟨⟨V3.put (B := B) (by rw [e0]; exact bs) (by rw [e0]; exact bt) (by rw [e0]; exact ba) (by rw [e4]; exact hv) hB ?_, IN.put ?_⟩, vt _ e4 _ _ _⟩, ?_⟩
        · rw [e0, up3_ne (by simp), up3_ne (by simp)]
        · refine hI.mk' (by rw [e0]) ?_ (ITn _ (fun q hq => by rw [up3_fam (by decide), up3_rows (by omega), up3_rows (by omega)]) (by rw [up3_ne (by simp), up3_self]) (by rw [up3_ne (by simp), up3_ne (by simp), up3_self])) (fun q hq => ?_)
          · refine HJ0.move ba hp (fun q hq => by simp [up3, hq]) (fun q hq => by simp [up3]) ?_ (fun i hi g => ?_) (fun i hi g => ?_)
            · try dsimp only
              rw [up3_self, up3_ne (by simp), up3_ne (by simp), up3_ne (by simp)]
              rcases pl with ⟨e, s⟩ | ⟨e, s⟩
              · try dsimp only at e
                rw [h3] at e
                exact absurd e (by decide)
              · exact Or.inr ⟨Or.inl rfl, s⟩
            · try dsimp only at g ⊢
              rw [up3_self, up3_ne (by simp), up3_ne (by simp), up3_ne (by simp)] at g
              rw [up3_ne (by simp), up3_ne (by simp), up3_ne (by simp)]
              have := (HJ0.2.1 i p hi hp).mp ⟨by try dsimp only; rw [h3]; exact Or.inr (Or.inl rfl), g.2⟩
              exact ⟨this, Or.inr this⟩
            · try dsimp only at g ⊢
              rw [up3_self, up3_ne (by simp), up3_ne (by simp), up3_ne (by simp)] at g
              rw [up3_ne (by simp), up3_ne (by simp), up3_ne (by simp)]
              refine ⟨fun z => ?_, fun _ => rfl⟩
              exact absurd ⟨Or.inl rfl, ((HJ0.2.1 i p hi hp).mpr z).2⟩ g
          · have := hI.2.2.2 q hq
            rw [up3_ne (by omega), up3_ne (by omega), up3_ne (by omega), up3_ne (by simp), up3_ne (by simp), up3_ne (by simp), up3_ne (by simp), up3_ne (by simp), up3_ne (by simp)]
            exact this
        · rw [put_f (by decide), e0]
      · rw [if_neg h3, if_neg h3, e6]
        have V3 := V2.upA (p := p) (k := 5) (v := 5) (by rw [up3_ne (by simp), up3_ne (by simp)]; exact bs) (by rw [up3_ne (by simp), up3_ne (by simp)]; exact bt) (by omega) (by decide)
        have V4 := V3.upA (p := p) (k := 6) (v := -1) (by rw [up3_ne (by simp), up3_ne (by simp), up3_ne (by simp)]; exact bs) (by rw [up3_ne (by simp), up3_ne (by simp), up3_ne (by simp)]; exact bt) (by omega) (by decide)
        by_cases h4 : m 3 p 6 = -1
        · rw [if_pos h4, put_sw]
          rw [up3_sw (f := 3) (f' := 2) (by decide)]
          have e60 : up3 (up3 (up3 m 2 j 2 (m 2 j 2 - 1)) 2 j 1 (-1)) 3 p 5 5 3 p 6 = -1 := by
            rw [up3_ne (by simp), up3_ne (by simp), up3_ne (by simp)]
            exact h4
          have V4' := V4
          have e61 : up3 (up3 (up3 (up3 m 2 j 2 (m 2 j 2 - 1)) 2 j 1 (-1)) 3 p 5 5) 3 p 6 (-1) = up3 (up3 (up3 m 2 j 2 (m 2 j 2 - 1)) 2 j 1 (-1)) 3 p 5 5 := by
            have z := up3_id (m := up3 (up3 (up3 m 2 j 2 (m 2 j 2 - 1)) 2 j 1 (-1)) 3 p 5 5) (f := 3) (i := p) (k := 6)
            rw [e60] at z
            exact z
          rw [e61] at V4'
          have e4 : up3 (up3 (up3 m 2 j 2 (m 2 j 2 - 1)) 2 j 1 (-1)) 3 p 5 5 4 0 0 = m 4 0 0 := by rw [up3_ne (by simp), up3_ne (by simp), up3_ne (by simp)]
          have e0 : up3 (up3 (up3 m 2 j 2 (m 2 j 2 - 1)) 2 j 1 (-1)) 3 p 5 5 0 = m 0 := by rw [up3_fam (by decide), up3_fam (by decide), up3_fam (by decide)]
          refine ⟨⟨⟨V4'.put (B := B) (by rw [e0]; exact bs) (by rw [e0]; exact bt) (by rw [e0]; exact ba) (by rw [e4]; exact hv) hB ?_, IN.put ?_⟩, vt _ e4 _ _ _⟩, ?_⟩
          · rw [e0, up3_ne (by simp), up3_ne (by simp)]
          · refine hI.mk' (by rw [e0]) ?_ (ITn _ (fun q hq => by rw [up3_fam (by decide), up3_rows (by omega), up3_rows (by omega)]) (by rw [up3_ne (by simp), up3_self]) (by rw [up3_ne (by simp), up3_ne (by simp), up3_self])) (fun q hq => ?_)
            · refine HJ0.move ba hp (fun q hq => by simp [up3, hq]) (fun q hq => by simp [up3]) ?_ (fun i hi g => ?_) (fun i hi g => ?_)
              · try dsimp only
                rw [up3_self, up3_ne (by simp), up3_ne (by simp), up3_ne (by simp)]
                exact Or.inl ⟨by decide, h4⟩
              · try dsimp only at g
                rw [up3_self] at g
                exact absurd rfl (hp_n g.1).2.2
              · try dsimp only
                rw [up3_ne (by simp), up3_ne (by simp), up3_ne (by simp)]
                refine ⟨fun z => ?_, fun _ => rfl⟩
                have z2 := ((HJ0.2.1 i p hi hp).mpr z).2
                try dsimp only at z2
                rw [h4] at z2
                exact absurd z2.symm (nI_n1 (by omega))
            · have := hI.2.2.2 q hq
              rw [up3_ne (by omega), up3_ne (by omega), up3_ne (by omega), up3_ne (by simp), up3_ne (by simp), up3_ne (by simp), up3_ne (by simp), up3_ne (by simp), up3_ne (by simp)]
              exact this
          · rw [put_f (by decide), e0]
        · rw [if_neg h4, put_sw]
          obtain ⟨hpP, i0, hi0, ei0⟩ : HP (m 3 p 5) ∧ ∃ i, i < ix (m 0 0 0) ∧ m 3 p 6 = nI i := by
            rcases pl with ⟨_, s⟩ | z
            · exact absurd s h4
            · exact z
          rw [ei0, ix_nI (by omega)]
          have hσ := (HJ0.2.1 i0 p hi0 hp).mp ⟨hpP, ei0⟩
          try dsimp only at hσ
          have eX : up3 (up3 (up3 (up3 (up3 m 2 j 2 (m 2 j 2 - 1)) 3 p 5 5) 1 i0 1 (-1)) 3 p 6 (-1)) 2 j 1 (-1) = up3 (up3 (up3 (up3 (up3 m 2 j 2 (m 2 j 2 - 1)) 2 j 1 (-1)) 3 p 5 5) 3 p 6 (-1)) 1 i0 1 (-1) := by
            rw [up3_sw (f := 1) (f' := 3) (by decide), up3_sw (f := 1) (f' := 2) (by decide), up3_sw (f := 3) (f' := 2) (by decide), up3_sw (f := 3) (f' := 2) (by decide)]
          rw [eX]
          have V5 := V4.upS1 (j := i0) (v := -1)
          have e4 : up3 (up3 (up3 (up3 (up3 m 2 j 2 (m 2 j 2 - 1)) 2 j 1 (-1)) 3 p 5 5) 3 p 6 (-1)) 1 i0 1 (-1) 4 0 0 = m 4 0 0 := by rw [up3_ne (by simp), up3_ne (by simp), up3_ne (by simp), up3_ne (by simp), up3_ne (by simp)]
          have e0 : up3 (up3 (up3 (up3 (up3 m 2 j 2 (m 2 j 2 - 1)) 2 j 1 (-1)) 3 p 5 5) 3 p 6 (-1)) 1 i0 1 (-1) 0 = m 0 := by rw [up3_fam (by decide), up3_fam (by decide), up3_fam (by decide), up3_fam (by decide), up3_fam (by decide)]
          refine ⟨⟨⟨V5.put (B := B) (by rw [e0]; exact bs) (by rw [e0]; exact bt) (by rw [e0]; exact ba) (by rw [e4]; exact hv) hB ?_, IN.put ?_⟩, vt _ e4 _ _ _⟩, ?_⟩
          · rw [e0, up3_ne (by simp), up3_ne (by simp), up3_ne (by simp), up3_ne (by simp)]
          · refine hI.mk' (by rw [e0]) ?_ (ITn _ (fun q hq => by rw [up3_fam (by decide), up3_fam (by decide), up3_fam (by decide), up3_rows (by omega), up3_rows (by omega)]) (by rw [up3_ne (by simp), up3_ne (by simp), up3_ne (by simp), up3_self]) (by rw [up3_ne (by simp), up3_ne (by simp), up3_ne (by simp), up3_ne (by simp), up3_self])) (fun q hq => ?_)
            · refine HJ0.move ba hp (fun q hq => by simp [up3, hq]) (fun q hq => by simp [up3, hq]) ?_ (fun i hi g => ?_) (fun i hi g => ?_)
              · try dsimp only
                rw [up3_ne (by simp), up3_ne (by simp), up3_self, up3_ne (by simp), up3_self]
                exact Or.inl ⟨by decide, rfl⟩
              · try dsimp only at g
                rw [up3_ne (by simp), up3_ne (by simp), up3_self] at g
                exact absurd rfl (hp_n g.1).2.2
              · try dsimp only
                by_cases ei : i = i0
                · subst ei
                  rw [up3_self]
                  exact ⟨fun _ => rfl, fun z => absurd hσ z⟩
                · rw [up3_ne (by omega), up3_ne (by simp), up3_ne (by simp), up3_ne (by simp), up3_ne (by simp)]
                  refine ⟨fun z => ?_, fun _ => rfl⟩
                  have z2 := ((HJ0.2.1 i p hi hp).mpr z).2
                  try dsimp only at z2
                  rw [ei0] at z2
                  exact absurd (nI_inj (by omega) (by omega) z2).symm ei
            · have := hI.2.2.2 q hq
              rw [up3_ne (by omega), up3_ne (by omega), up3_ne (by omega), up3_ne (by omega), up3_ne (by omega), up3_ne (by omega), up3_ne (by omega), up3_ne (by omega), up3_ne (by omega), up3_ne (by omega), up3_ne (by omega), up3_ne (by omega), up3_ne (by omega), up3_ne (by omega), up3_ne (by omega)]
              exact this
          · rw [put_f (by decide), e0]
    · rw [if_neg h2, if_neg h2]
      refine ⟨⟨⟨V1, ?_⟩, ?_⟩, up3_fam (by decide)⟩
      · refine hI.mk' (by rw [up3_fam (by decide)]) ?_ (hI.2.2.1.set (t := j) (fun q hq => up3_rows (by omega)) (fun _ => ?_)) (fun q hq => ?_)
        · have := hI.2.1
          rw [show (fun p => up3 m 2 j 2 (m 2 j 2 - 1) 3 p 5) = fun p => m 3 p 5 from funext fun p => up3_ne (by simp), show (fun p => up3 m 2 j 2 (m 2 j 2 - 1) 3 p 6) = fun p => m 3 p 6 from funext fun p => up3_ne (by simp), show (fun p => up3 m 2 j 2 (m 2 j 2 - 1) 1 p 1) = fun p => m 1 p 1 from funext fun p => up3_ne (by simp)]
          exact this
        · rw [up3_ne (by simp), up3_self]
          exact ⟨t1, vn_d t2 hz, fun _ => h2⟩
        · have := hI.2.2.2 q hq
          rw [up3_ne (by simp), up3_ne (by simp), up3_ne (by simp)]
          exact this
      · rw [up3_ne (by simp)]
        exact ⟨hv.1, Nat.le_succ_of_le hv.2⟩
theorem wt_ok (h : RB B m μ) (hB : B + 3 < 2 ^ 31) : RB (B + 3) (x_X1_workTugs m) (x_X7_tugs μ) ∧ x_X1_workTugs m 0 = m 0 := by
  have bt := h.1.2.nt.2
  rw [x_X1_workTugs_eq, x_X7_tugs_eq]
  unfold y_X1_workTugs y_X7_tugs
  rw [lf_X1_workTugs_2_eq, lf_X7_tugs_2_eq]
  unfold ly_X1_workTugs_2 ly_X7_tugs_2
  rw [← h.1.1.c (k := 1) (by decide)]
  have q := itr_rel (n := ix (m 0 0 1)) (P := fun i s t => RB (B + i) s t ∧ s 0 = m 0) (fun jz s => bd_X1_workTugs_2 jz s) (fun jz s => bd_X7_tugs_2 jz s) (fun i s t hi g => by
    have w := wt_body g.1 (by omega) (show i < ix (s 0 0 1) by rw [g.2]; exact hi)
    exact ⟨w.1, w.2.trans g.2⟩) ⟨h, rfl⟩
  exact ⟨⟨q.1.1, q.1.2.1, Nat.le_trans q.1.2.2 (by omega)⟩, q.2⟩
end PHS
