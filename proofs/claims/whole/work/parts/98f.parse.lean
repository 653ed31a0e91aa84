/-! parse -/
def GOODT (c : Mem × Int32) (b : Mem × Bool) : Prop := c.2 = -1 ∧ b.2 = true ∧ TR c.1 b.1 ∧ ∃ n, n ≤ 12 ∧ c.1 0 0 1 = nI n ∧ b.1 0 0 4 = nI n ∧ ∀ i, i < n → RW5 c.1 b.1 i
section PRS
variable {B B' : Nat} {S S' : Sys} {T T0 T1 μ μ0 μ1 : Mem} {g q r : Nat} {x y v p2 p3 c d : Int32}
theorem tx_stay (h : ¬ μ 0 0 3 < μ 0 0 2) : ∀ n j, itr (fun jz (s : Mem × Bool) => bd_X7_readsText_12 jz s.1 s.2) n j (μ, true) = (μ, true) := by
  intro n
  induction n with
  | zero => exact fun _ => rfl
  | succ n ih =>
    intro j
    show itr (fun jz (s : Mem × Bool) => bd_X7_readsText_12 jz s.1 s.2) n (j + 1) (bd_X7_readsText_12 j μ true) = _
    have e : bd_X7_readsText_12 j μ true = (μ, true) := by
      unfold bd_X7_readsText_12
      rw [if_pos rfl, if_neg h]
    rw [e]
    exact ih (j + 1)
theorem tx_bad : ∀ n j, itr (fun jz (s : Mem × Bool) => bd_X7_readsText_12 jz s.1 s.2) n j (μ, false) = (μ, false) := by
  intro n
  induction n with
  | zero => exact fun _ => rfl
  | succ n ih =>
    intro j
    show itr (fun jz (s : Mem × Bool) => bd_X7_readsText_12 jz s.1 s.2) n (j + 1) (bd_X7_readsText_12 j μ false) = _
    have e : bd_X7_readsText_12 j μ false = (μ, false) := by
      unfold bd_X7_readsText_12
      rw [if_neg (by decide)]
    rw [e]
    exact ih (j + 1)
theorem rdl : ∀ (k j j' : Nat) (T μ : Mem), j + k = 12 → TR T μ → T 0 0 1 = nI j → μ 0 0 4 = nI j → (∀ i, i < j → RW5 T μ i) → GOODT (rd_k k j T) (itr (fun jz (s : Mem × Bool) => bd_X7_readsText_12 jz s.1 s.2) (k + 1) j' (μ, true)) ∨ BAD (rd_k k j T) (itr (fun jz (s : Mem × Bool) => bd_X7_readsText_12 jz s.1 s.2) (k + 1) j' (μ, true)) := by
  intro k
  induction k with
  | zero =>
    intro j j' T μ hj hT h1 h4 hR
    have e0 : rd_k 0 j T = (T, if T 0 0 2 < T 0 0 0 then T 0 0 2 else -1) := rfl
    rw [e0]
    by_cases l : T 0 0 2 < T 0 0 0
    · have e : itr (fun jz (s : Mem × Bool) => bd_X7_readsText_12 jz s.1 s.2) (0 + 1) j' (μ, true) = (μ, false) := by
        show bd_X7_readsText_12 j' μ true = _
        unfold bd_X7_readsText_12
        rw [if_pos rfl, if_pos (by rw [← hT.1, ← hT.2.1]; exact l), x_X7_readsPlane_eq]
        unfold y_X7_readsPlane
        have : μ 0 0 4 = 12 := by
          rw [h4, show j = 12 by omega]
          rfl
        rw [if_pos this]
      rw [e, if_pos l]
      exact Or.inr ⟨hT.ne, rfl, hT.2.1⟩
    · rw [if_neg l, tx_stay (by rw [← hT.1, ← hT.2.1]; exact l)]
      exact Or.inl ⟨rfl, rfl, hT, j, by omega, h1, h4, hR⟩
  | succ k ih =>
    intro j j' T μ hj hT h1 h4 hR
    have e0 : rd_k (k + 1) j T = if T 0 0 2 < T 0 0 0 then (if (x_X4_readAircraft T j).2 = -1 then rd_k k (j + 1) (up3 (x_X4_readAircraft T j).1 0 0 1 ((x_X4_readAircraft T j).1 0 0 1 + 1)) else x_X4_readAircraft T j) else (T, -1) := rfl
    rw [e0]
    by_cases l : T 0 0 2 < T 0 0 0
    · have e : itr (fun jz (s : Mem × Bool) => bd_X7_readsText_12 jz s.1 s.2) (k + 1 + 1) j' (μ, true) = itr (fun jz (s : Mem × Bool) => bd_X7_readsText_12 jz s.1 s.2) (k + 1) (j' + 1) ((x_X7_readsPlane μ).1, (x_X7_readsPlane μ).2) := by
        show itr (fun jz (s : Mem × Bool) => bd_X7_readsText_12 jz s.1 s.2) (k + 1) (j' + 1) (bd_X7_readsText_12 j' μ true) = _
        have : bd_X7_readsText_12 j' μ true = ((x_X7_readsPlane μ).1, (x_X7_readsPlane μ).2) := by
          unfold bd_X7_readsText_12
          rw [if_pos rfl, if_pos (by rw [← hT.1, ← hT.2.1]; exact l)]
        rw [this]
      rw [e, if_pos l]
      rcases pl_ok hT h4 (show j < 12 by omega) with ⟨g1, g2, g3, g4, g5, g6, g7, g8⟩ | ⟨b1, b2, b3⟩
      · rw [if_pos g1, g2]
        generalize x_X4_readAircraft T j = c at *
        generalize x_X7_readsPlane μ = b at *
        refine ih (j + 1) (j' + 1) _ _ (by omega) ?_ ?_ ?_ (fun i hi => ?_)
        · refine ⟨?_, ?_, ?_, ?_, ?_⟩
          · rw [up3_ne (by decide)]; exact g3.1
          · rw [up3_ne (by decide)]; exact g3.2.1
          · rw [up3_ne (by decide)]; exact g3.2.2.1
          · rw [up3_ne (by decide)]; exact g3.2.2.2.1
          · rw [up3_ne (by decide), up3_fam (by decide)]; exact g3.2.2.2.2
        · rw [up3_self, g5, h1, nI_1]
        · rw [g6, h4, nI_1]
        · unfold RW5
          rw [up3_fam (f' := 2) (by decide), up3_fam (f' := 3) (by decide), up3_fam (f' := 4) (by decide), up3_fam (f' := 5) (by decide)]
          by_cases ei : i = j
          · subst ei
            exact g4
          · rw [g7 2 i (by decide) ei, g7 3 i (by decide) ei, g7 4 i (by decide) ei, g7 5 i (by decide) ei, g8 _ (by omega), g8 _ (by omega), g8 _ (by omega), g8 _ (by omega), g8 _ (by omega)]
            exact hR i (by omega)
      · rw [if_neg b1, b2, tx_bad]
        exact Or.inr ⟨b1, rfl, b3⟩
    · rw [if_neg l, tx_stay (by rw [← hT.1, ← hT.2.1]; exact l)]
      exact Or.inl ⟨rfl, rfl, hT, j, by omega, h1, h4, hR⟩
theorem txt_ok (h0 : T 0 0 0 = μ 0 0 2) (hv : VN 90 (T 0 0 0)) (ht : ∀ z, z < ix (T 0 0 0) → T 1 0 z = μ 5 0 z) : GOODT (x_X4_read T) (x_X7_readsText μ) ∨ BAD (x_X4_read T) (x_X7_readsText μ) := by
  rw [x_X4_read_eq, x_X7_readsText_eq]
  unfold y_X4_read y_X7_readsText
  rw [lf_X7_readsText_12_eq]
  unfold ly_X7_readsText_12
  refine rdl 12 0 0 _ _ (by decide) ⟨?_, ?_, ?_, ?_, ?_⟩ ?_ ?_ (fun i hi => absurd hi (Nat.not_lt_zero i))
  · rw [up3_ne (by decide), up3_ne (by decide), up3_ne (by decide), up3_ne (by decide)]; exact h0
  · rw [up3_ne (by decide), up3_self, up3_ne (by decide), up3_self]
  · rw [up3_ne (by decide), up3_ne (by decide)]; exact hv
  · rw [up3_ne (by decide), up3_self]; exact vn_0
  · rw [up3_ne (by decide), up3_ne (by decide), up3_fam (by decide), up3_fam (by decide), up3_fam (by decide), up3_fam (by decide)]; exact ht
  · rw [up3_self]; rfl
  · rw [up3_self]; rfl
theorem call_parse (h : INV B S μ) (hb : B ≤ B') (hB : B' + 200000 < 2147483648) : (x_X6_parse S).2 = (x_X7_parse μ).2 ∧ INV B' (x_X6_parse S).1 (x_X7_parse μ).1 := by
  have hT : S 7 0 0 0 = μ 0 0 2 := h.2.2.2.2.2.2.1
  have v90 := h.1.2.2.2
  have fc := fw_X4_read v90
  have fm := tx_w (m := μ) (by rw [← hT]; exact v90)
  have O := txt_ok hT v90 h.2.2.2.2.2.2.2
  have h' : INV B (us S 7 (x_X4_read (S 7)).1) (x_X7_readsText μ).1 := by
    refine h.tt (fm.2.2.2.2 1 (by decide) (by decide)) (fm.2.2.2.2 2 (by decide) (by decide)) fm.2.2.2.1 ?_ fc.1 (fun z hz => ?_)
    · rw [fc.2.2.1, fm.2.2.1, hT]
    · rw [fc.2.2.2, fm.2.2.2.2 5 (by decide) (by decide)]
      rw [fc.2.2.1] at hz
      exact h.2.2.2.2.2.2.2 z hz
  rw [x_X6_parse_eq, x_X7_parse_eq]
  unfold y_X6_parse y_X7_parse
  have s7 : us S 7 (x_X4_read (S 7)).1 7 = (x_X4_read (S 7)).1 := us_same _ _ _
  generalize us S 7 (x_X4_read (S 7)).1 = S' at h' s7 ⊢
  generalize x_X4_read (S 7) = c at O s7 ⊢
  generalize x_X7_readsText μ = b at O h' ⊢
  rcases O with ⟨g1, g2, g3, n, hn, g4, g5, g6⟩ | ⟨b1, b2, b3⟩
  · rw [if_pos g1, if_pos g2, fine_eq]
    have hs := save_rel h'
    have sv7 : x_X6_save S' 7 = c.1 := by rw [← s7]; exact sv_u (Or.inr (Or.inr rfl)) h'.1.2.1 h'.1.1
    have m6 : x_X7_clears (x_X7_save b.1) 6 = b.1 6 := by
      rw [fam_clears (by decide), (msv_f (by rw [← h'.2.2.2.1]; exact h'.1.1)).1 6 (by decide) (by decide)]
    have m4 : x_X7_clears (x_X7_save b.1) 0 0 4 = b.1 0 0 4 := tx_f
    have h2 := hs.set1 (u := x_X1_restart (x_X6_save S' 1)) (μ' := x_X7_clears (x_X7_save b.1)) (fk_restart hs.1.f1) (by rw [rst.1.2.2]; exact vn_0) hs.2.2.1.clear (fam_clears (by decide)) (fam_clears (by decide)) (fam_clears (by decide))
    have c0 : us (x_X6_save S') 1 (x_X1_restart (x_X6_save S' 1)) 1 0 0 2 = 0 := by rw [us_same]; exact rst.1.1
    have c7 : us (x_X6_save S') 1 (x_X1_restart (x_X6_save S' 1)) 7 = c.1 := by rw [us_ne (by decide), sv7]
    generalize us (x_X6_save S') 1 (x_X1_restart (x_X6_save S' 1)) = S2 at *
    generalize x_X7_clears (x_X7_save b.1) = μ2 at *
    rw [g4, g5, ix_nI (by omega), lf_X6_parse_31_eq, lf_X7_parse_29_eq]
    unfold ly_X6_parse_31 ly_X7_parse_29
    have main := itr_rel (n := n) (s := S2) (t := μ2) (P := fun j (s : Sys) (t : Mem) => INV B s t ∧ s 7 = c.1 ∧ t 6 = b.1 6 ∧ t 0 = μ2 0 ∧ s 1 0 0 2 = nI j) (fun jz s => bd_X6_parse_31 c.2 jz s) (fun jz s => bd_X7_parse_29 jz s) (fun j s t hj z => ?_) ⟨h2, c7, m6, rfl, c0⟩
    · refine ⟨?_, (main.1.mono hb hB).o1⟩
      dsimp only
      rw [main.2.1, main.2.2.2.1, m4, g4, g5]
    · obtain ⟨z1, z2, z3, z4, z5⟩ := z
      obtain ⟨⟨a, e, ha, he, r2, r0, r1⟩, ⟨r3, v3⟩, ⟨r4, v4⟩, r5⟩ := g6 j hj
      have p1 : s 7 2 0 j / 10 = t 6 0 (5 * j) := by
        rw [z2, r2, z3, r0, show (10 : Int32) = nI 10 from rfl, pk_div (by omega) (by decide) (by decide)]
        congr 1
        omega
      have p2 : s 7 2 0 j - s 7 2 0 j / 10 * 10 = t 6 0 (5 * j + 1) := by
        rw [p1, z2, r2, z3, r0, r1, show (10 : Int32) = nI 10 from rfl, pk_mul, pk_sub (by omega)]
        congr 1
        omega
      have l12 : ix (s 1 0 0 2) < 12 := by rw [z5, ix_nI (by omega)]; omega
      have q12 : s 1 0 0 2 < 12 := by rw [z5]; exact nI_lt (b := 12) (by omega) (by decide)
      have FA := z1.2.2.1.add (p1 := s 7 2 0 j) (p2 := s 7 3 0 j) (p3 := s 7 4 0 j) (p4 := s 7 5 0 j) l12 q12 (by rw [z2]; exact v3) (by rw [z2]; exact v4)
      have ea : bd_X7_parse_29 j t = x_X7_adds t (s 7 2 0 j / 10) (s 7 2 0 j - s 7 2 0 j / 10 * 10) (s 7 3 0 j) (s 7 4 0 j) (s 7 5 0 j) := by
        unfold bd_X7_parse_29
        rw [p2, p1, z2, r3, r4, r5, z3]
      have ac := adc (u := s 1) (p1 := s 7 2 0 j) (p2 := s 7 3 0 j) (p3 := s 7 4 0 j) (p4 := s 7 5 0 j) rfl q12
      show INV B (bd_X6_parse_31 c.2 j s) (bd_X7_parse_29 j t) ∧ bd_X6_parse_31 c.2 j s 7 = c.1 ∧ bd_X7_parse_29 j t 6 = b.1 6 ∧ bd_X7_parse_29 j t 0 = μ2 0 ∧ bd_X6_parse_31 c.2 j s 1 0 0 2 = nI (j + 1)
      rw [ea]
      unfold bd_X6_parse_31
      refine ⟨z1.set1 (fk_add z1.1.f1) (by rw [ac.1 4 (by decide) (by decide)]; exact z1.vt) FA (ad_f (by decide)) (ad_f (by decide)) (ad_f (by decide)), ?_, ?_, ?_, ?_⟩
      · rw [us_ne (by decide)]; exact z2
      · rw [ad_f (by decide)]; exact z3
      · rw [ad_f (by decide)]; exact z4
      · rw [us_same, ac.2.2.1, z5, nI_1]
  · rw [if_neg b1, if_neg (by rw [b2]; decide), fine_eq]
    refine ⟨?_, (h'.mono hb hB).o1⟩
    dsimp only
    rw [b3]
end PRS
