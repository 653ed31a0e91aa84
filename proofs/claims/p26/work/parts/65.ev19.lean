noncomputable def bd_X7_parse_29 (j : Nat) (m : Mem) : Mem := (x_X7_adds m (m 6 0 (5 * j)) (m 6 0 ((5 * j) + 1)) (m 6 0 ((5 * j) + 2)) (m 6 0 ((5 * j) + 3)) (m 6 0 ((5 * j) + 4)))
noncomputable def ly_X7_parse_29 (N : Nat) (m : Mem) : Mem := itr (fun jz s => bd_X7_parse_29 jz s) N 0 m
theorem le_X7_parse_29 : ∃ f, f = ly_X7_parse_29 := ⟨ly_X7_parse_29, rfl⟩
noncomputable def lf_X7_parse_29 := Classical.choose le_X7_parse_29
theorem lf_X7_parse_29_eq : lf_X7_parse_29 = ly_X7_parse_29 := Classical.choose_spec le_X7_parse_29
theorem fb_X7_parse_29 {j : Nat} {m : Mem} (hjN : j < 12) (hK : MK m ∧ m 1 0 2 = nI j) : (MK (bd_X7_parse_29 j m) ∧ (bd_X7_parse_29 j m) 1 0 2 = nI (j + 1)) := by
  unfold bd_X7_parse_29
  have hjN2 : j < 12 := by omega
  exact (ad_K hK (by omega))
theorem fl_X7_parse_29 {N : Nat} {m : Mem} (hNc : N ≤ 12) (hK : MK m ∧ m 1 0 2 = nI 0) : (MK (lf_X7_parse_29 N m) ∧ (lf_X7_parse_29 N m) 1 0 2 = nI N) := by
  rw [lf_X7_parse_29_eq]
  unfold ly_X7_parse_29
  exact itr_inv (n := N) (s := m) (P := fun jz s => (MK s ∧ s 1 0 2 = nI jz)) (fun jz s => bd_X7_parse_29 jz s) (fun jz s hj hs => fb_X7_parse_29 (j := jz) (m := s) (by omega) hs) hK
noncomputable def y_X7_parse (m : Mem) : Mem × Int32 := (if (x_X7_readsText m).2 = true then ((x_X7_fine (lf_X7_parse_29 (ix ((x_X7_readsText m).1 0 0 4)) (x_X7_clears (x_X7_save ((x_X7_readsText m).1)))) ((lf_X7_parse_29 (ix ((x_X7_readsText m).1 0 0 4)) (x_X7_clears (x_X7_save ((x_X7_readsText m).1)))) 0 0 4)).1, (x_X7_fine (lf_X7_parse_29 (ix ((x_X7_readsText m).1 0 0 4)) (x_X7_clears (x_X7_save ((x_X7_readsText m).1)))) ((lf_X7_parse_29 (ix ((x_X7_readsText m).1 0 0 4)) (x_X7_clears (x_X7_save ((x_X7_readsText m).1)))) 0 0 4)).2) else ((x_X7_fine ((x_X7_readsText m).1) ((-10) - ((x_X7_readsText m).1 0 0 3))).1, (x_X7_fine ((x_X7_readsText m).1) ((-10) - ((x_X7_readsText m).1 0 0 3))).2))
theorem xe_X7_parse : ∃ f, f = y_X7_parse := ⟨y_X7_parse, rfl⟩
noncomputable def x_X7_parse := Classical.choose xe_X7_parse
theorem x_X7_parse_eq : x_X7_parse = y_X7_parse := Classical.choose_spec xe_X7_parse
