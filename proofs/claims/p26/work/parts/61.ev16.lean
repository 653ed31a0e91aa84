noncomputable def jy_X7_bestStand_j76 (m : Mem) (a1 : Int32) (a2 : Int32) (a3 : Int32) (a4 : Int32) (a5 : Int32) : Int32 × Int32 := (if a4 = 0 then (a1, a2) else (if a1 = (-1) then (a3, a5) else (if a5 < a2 then (a3, a5) else (a1, a2))))
theorem je_X7_bestStand_j76 : ∃ f, f = jy_X7_bestStand_j76 := ⟨jy_X7_bestStand_j76, rfl⟩
noncomputable def jf_X7_bestStand_j76 := Classical.choose je_X7_bestStand_j76
theorem jf_X7_bestStand_j76_eq : jf_X7_bestStand_j76 = jy_X7_bestStand_j76 := Classical.choose_spec je_X7_bestStand_j76
noncomputable def bd_X7_bestStand_6 (j : Nat) (m : Mem) (c1 : Int32) (c2 : Int32) : Mem × Int32 × Int32 := (if (m 1 0 (8 + 2 * j + 0)) < 4 then (if (x_X7_toAll (up3 (x_X7_laysAside m) 1 0 (8 + 2 * j + 0) (((x_X7_laysAside m) 1 0 (8 + 2 * j + 0)) + 1))).2 = (-1) then ((x_X7_takesBack ((x_X7_toAll (up3 (x_X7_laysAside m) 1 0 (8 + 2 * j + 0) (((x_X7_laysAside m) 1 0 (8 + 2 * j + 0)) + 1))).1)), ((jf_X7_bestStand_j76 (x_X7_takesBack ((x_X7_toAll (up3 (x_X7_laysAside m) 1 0 (8 + 2 * j + 0) (((x_X7_laysAside m) 1 0 (8 + 2 * j + 0)) + 1))).1)) c1 c2 (nI j) 0 ((x_X7_toAll (up3 (x_X7_laysAside m) 1 0 (8 + 2 * j + 0) (((x_X7_laysAside m) 1 0 (8 + 2 * j + 0)) + 1))).1 1 0 6)).1), ((jf_X7_bestStand_j76 (x_X7_takesBack ((x_X7_toAll (up3 (x_X7_laysAside m) 1 0 (8 + 2 * j + 0) (((x_X7_laysAside m) 1 0 (8 + 2 * j + 0)) + 1))).1)) c1 c2 (nI j) 0 ((x_X7_toAll (up3 (x_X7_laysAside m) 1 0 (8 + 2 * j + 0) (((x_X7_laysAside m) 1 0 (8 + 2 * j + 0)) + 1))).1 1 0 6)).2)) else ((x_X7_takesBack ((x_X7_toAll (up3 (x_X7_laysAside m) 1 0 (8 + 2 * j + 0) (((x_X7_laysAside m) 1 0 (8 + 2 * j + 0)) + 1))).1)), ((jf_X7_bestStand_j76 (x_X7_takesBack ((x_X7_toAll (up3 (x_X7_laysAside m) 1 0 (8 + 2 * j + 0) (((x_X7_laysAside m) 1 0 (8 + 2 * j + 0)) + 1))).1)) c1 c2 (nI j) 1 ((x_X7_toAll (up3 (x_X7_laysAside m) 1 0 (8 + 2 * j + 0) (((x_X7_laysAside m) 1 0 (8 + 2 * j + 0)) + 1))).1 1 0 6)).1), ((jf_X7_bestStand_j76 (x_X7_takesBack ((x_X7_toAll (up3 (x_X7_laysAside m) 1 0 (8 + 2 * j + 0) (((x_X7_laysAside m) 1 0 (8 + 2 * j + 0)) + 1))).1)) c1 c2 (nI j) 1 ((x_X7_toAll (up3 (x_X7_laysAside m) 1 0 (8 + 2 * j + 0) (((x_X7_laysAside m) 1 0 (8 + 2 * j + 0)) + 1))).1 1 0 6)).2))) else (m, c1, c2))
noncomputable def ly_X7_bestStand_6 (N : Nat) (m : Mem) (c1 : Int32) (c2 : Int32) : Mem × Int32 × Int32 := itr (fun jz s => bd_X7_bestStand_6 jz s.1 s.2.1 s.2.2) N 0 (m, c1, c2)
theorem le_X7_bestStand_6 : ∃ f, f = ly_X7_bestStand_6 := ⟨ly_X7_bestStand_6, rfl⟩
noncomputable def lf_X7_bestStand_6 := Classical.choose le_X7_bestStand_6
theorem lf_X7_bestStand_6_eq : lf_X7_bestStand_6 = ly_X7_bestStand_6 := Classical.choose_spec le_X7_bestStand_6
theorem fb_X7_bestStand_6 {B : Nat} {m0 : Mem} (hB : B + 0 < 2147483648) {j : Nat} {m : Mem} {c1 : Int32} {c2 : Int32} (hjN : j < 6) (hW : MW (B + 0 * j) m0 m) : (MW (B + 0 * (j + 1)) m0 (bd_X7_bestStand_6 j m c1 c2).1) := by
  unfold bd_X7_bestStand_6
  by_cases h27 : (m 1 0 (8 + 2 * j + 0)) < 4
  · rw [if_pos h27]
    by_cases h53 : (x_X7_toAll (up3 (x_X7_laysAside m) 1 0 (8 + 2 * j + 0) (((x_X7_laysAside m) 1 0 (8 + 2 * j + 0)) + 1))).2 = (-1)
    · rw [if_pos h53]
      try dsimp only
      exact (MW.mono (MW.congr hW (tb_la ((fr_toAll (by decide) (by decide)).trans (up3_fam (by decide))))) (by omega))
    · rw [if_neg h53]
      try dsimp only
      exact (MW.mono (MW.congr hW (tb_la ((fr_toAll (by decide) (by decide)).trans (up3_fam (by decide))))) (by omega))
  · rw [if_neg h27]
    try dsimp only
    exact (MW.mono hW (by omega))
theorem fl_X7_bestStand_6 {B : Nat} {m0 : Mem} {N : Nat} (hB : B + 0 < 2147483648) {m : Mem} {c1 : Int32} {c2 : Int32} (hNc : N ≤ 6) (hW : MW (B + 0 * 0) m0 m) : (MW (B + 0 * N) m0 (lf_X7_bestStand_6 N m c1 c2).1) := by
  rw [lf_X7_bestStand_6_eq]
  unfold ly_X7_bestStand_6
  exact itr_inv (n := N) (s := (m, c1, c2)) (P := fun jz s => (MW (B + 0 * jz) m0 s.1)) (fun jz s => bd_X7_bestStand_6 jz s.1 s.2.1 s.2.2) (fun jz s hj hs => fb_X7_bestStand_6 (B := B) (m0 := m0) hB (j := jz) (m := s.1) (c1 := s.2.1) (c2 := s.2.2) (by omega) hs) hW
noncomputable def y_X7_bestStand (m : Mem) : Mem × Int32 := ((x_X7_fine ((lf_X7_bestStand_6 (ix (m 1 0 0)) m (-1) 0).1) ((lf_X7_bestStand_6 (ix (m 1 0 0)) m (-1) 0).2.1)).1, (x_X7_fine ((lf_X7_bestStand_6 (ix (m 1 0 0)) m (-1) 0).1) ((lf_X7_bestStand_6 (ix (m 1 0 0)) m (-1) 0).2.1)).2)
theorem xe_X7_bestStand : ∃ f, f = y_X7_bestStand := ⟨y_X7_bestStand, rfl⟩
noncomputable def x_X7_bestStand := Classical.choose xe_X7_bestStand
theorem x_X7_bestStand_eq : x_X7_bestStand = y_X7_bestStand := Classical.choose_spec xe_X7_bestStand
