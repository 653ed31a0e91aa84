noncomputable def bd_X7_minute_18 (j : Nat) (m : Mem) : Mem := (if (x_X7_planeOf m (nI j)) = (-1) then m else (up3 (up3 m 1 0 (8 + 2 * j + 1) ((m 1 0 (8 + 2 * j + 1)) + 1)) 1 0 (35 + 10 * (ix (x_X7_planeOf m (nI j))) + 8) (((up3 m 1 0 (8 + 2 * j + 1) ((m 1 0 (8 + 2 * j + 1)) + 1)) 1 0 (35 + 10 * (ix (x_X7_planeOf m (nI j))) + 8)) + 1)))
noncomputable def ly_X7_minute_18 (N : Nat) (m : Mem) : Mem := itr (fun jz s => bd_X7_minute_18 jz s) N 0 m
theorem le_X7_minute_18 : ∃ f, f = ly_X7_minute_18 := ⟨ly_X7_minute_18, rfl⟩
noncomputable def lf_X7_minute_18 := Classical.choose le_X7_minute_18
theorem lf_X7_minute_18_eq : lf_X7_minute_18 = ly_X7_minute_18 := Classical.choose_spec le_X7_minute_18
theorem fb_X7_minute_18 {B : Nat} {m0 : Mem} (hB : B + 0 < 2147483648) {j : Nat} {m : Mem} (hjN : j < 6) (hW : MW (B + 0 * j) m0 m) : (MW (B + 0 * (j + 1)) m0 (bd_X7_minute_18 j m)) := by
  unfold bd_X7_minute_18
  by_cases h36 : (x_X7_planeOf m (nI j)) = (-1)
  · rw [if_pos h36]
    exact (MW.mono hW (by omega))
  · rw [if_neg h36]
    have b39 : ix (x_X7_planeOf m (nI j)) < 12 := VX.lt (vx_X7_planeOf hW.1) h36
    exact (MW.mono (MW.up (MW.up hW (by unfold mok; omega)) (by unfold mok; omega)) (by omega))
theorem fl_X7_minute_18 {B : Nat} {m0 : Mem} {N : Nat} (hB : B + 0 < 2147483648) {m : Mem} (hNc : N ≤ 6) (hW : MW (B + 0 * 0) m0 m) : (MW (B + 0 * N) m0 (lf_X7_minute_18 N m)) := by
  rw [lf_X7_minute_18_eq]
  unfold ly_X7_minute_18
  exact itr_inv (n := N) (s := m) (P := fun jz s => (MW (B + 0 * jz) m0 s)) (fun jz s => bd_X7_minute_18 jz s) (fun jz s hj hs => fb_X7_minute_18 (B := B) (m0 := m0) hB (j := jz) (m := s) (by omega) hs) hW
noncomputable def y_X7_minute (m : Mem) : Mem := (up3 (lf_X7_minute_18 (ix (m 1 0 0)) (x_X7_towing (x_X7_pushbacks (x_X7_arrivals (x_X7_tugs m))))) 1 0 3 (((lf_X7_minute_18 (ix (m 1 0 0)) (x_X7_towing (x_X7_pushbacks (x_X7_arrivals (x_X7_tugs m))))) 1 0 3) + 1))
theorem xe_X7_minute : ∃ f, f = y_X7_minute := ⟨y_X7_minute, rfl⟩
noncomputable def x_X7_minute := Classical.choose xe_X7_minute
theorem x_X7_minute_eq : x_X7_minute = y_X7_minute := Classical.choose_spec xe_X7_minute
theorem fw_X7_minute {m : Mem} {B : Nat} {m0 : Mem} (hW : MW B m0 m) (hB : B + 0 < 2147483648) : MW (B + 0) m0 (x_X7_minute m) := by
  rw [x_X7_minute_eq]
  unfold y_X7_minute
  exact MW.mono (MW.up (MW.mono (fl_X7_minute_18 (m := (x_X7_towing (x_X7_pushbacks (x_X7_arrivals (x_X7_tugs m))))) (N := (ix (m 1 0 0))) (B := B) (m0 := m0) (by omega) hW.1.ns.2 (MW.mono (fw_X7_towing (fw_X7_pushbacks (fw_X7_arrivals (fw_X7_tugs hW (by omega)) (by omega)) (by omega)) (by omega)) (by omega))) (B' := B + 0) (by have hc9 := hW.1.ns.2; omega)) (by unfold mok; omega)) (by omega)
noncomputable def bd_X7_toAll_2 (j : Nat) (m : Mem) (c1 : Int32) : Mem × Int32 := (if c1 < 3000 then (if (x_X7_inState m 5) < (m 1 0 2) then ((x_X7_minute m), (c1 + 1)) else (m, c1)) else (m, c1))
noncomputable def ly_X7_toAll_2 (N : Nat) (m : Mem) (c1 : Int32) : Mem × Int32 := itr (fun jz s => bd_X7_toAll_2 jz s.1 s.2) N 0 (m, c1)
theorem le_X7_toAll_2 : ∃ f, f = ly_X7_toAll_2 := ⟨ly_X7_toAll_2, rfl⟩
noncomputable def lf_X7_toAll_2 := Classical.choose le_X7_toAll_2
theorem lf_X7_toAll_2_eq : lf_X7_toAll_2 = ly_X7_toAll_2 := Classical.choose_spec le_X7_toAll_2
theorem fb_X7_toAll_2 {B : Nat} {m0 : Mem} (hB : B + 0 < 2147483648) {j : Nat} {m : Mem} {c1 : Int32} (hjN : j < 3000) (hW : MW (B + 0 * j) m0 m) (hn : c1 = nI j ∨ ¬ (c1 < 3000 ∧ x_X7_inState m 5 < m 1 0 2)) : (MW (B + 0 * (j + 1)) m0 (bd_X7_toAll_2 j m c1).1) ∧ ((bd_X7_toAll_2 j m c1).2 = nI (j + 1) ∨ ¬ ((bd_X7_toAll_2 j m c1).2 < 3000 ∧ x_X7_inState (bd_X7_toAll_2 j m c1).1 5 < (bd_X7_toAll_2 j m c1).1 1 0 2)) := by
  unfold bd_X7_toAll_2
  by_cases h6 : c1 < 3000
  · rw [if_pos h6]
    by_cases h20 : (x_X7_inState m 5) < (m 1 0 2)
    · rw [if_pos h20]
      try dsimp only
      exact ⟨(MW.mono (fw_X7_minute hW (by omega)) (by omega)), (by first | exact Or.inr (fun q => h6 q.1) | exact Or.inr (fun q => h20 q.2) | exact hn.elim (fun e => Or.inl (by rw [e, nI_1])) (fun e => absurd ⟨h6, h20⟩ e))⟩
    · rw [if_neg h20]
      try dsimp only
      exact ⟨(MW.mono hW (by omega)), (by first | exact Or.inr (fun q => h6 q.1) | exact Or.inr (fun q => h20 q.2) | exact hn.elim (fun e => Or.inl (by rw [e, nI_1])) (fun e => absurd ⟨h6, h20⟩ e))⟩
  · rw [if_neg h6]
    try dsimp only
    exact ⟨(MW.mono hW (by omega)), (by first | exact Or.inr (fun q => h6 q.1) | exact Or.inr (fun q => h20 q.2) | exact hn.elim (fun e => Or.inl (by rw [e, nI_1])) (fun e => absurd ⟨h6, h20⟩ e))⟩
theorem fl_X7_toAll_2 {B : Nat} {m0 : Mem} (hB : B + 0 < 2147483648) {m : Mem} {c1 : Int32} {N : Nat} (hNl : N = 3000) (hW : MW (B + 0 * 0) m0 m) (hn : c1 = nI 0 ∨ ¬ (c1 < 3000 ∧ x_X7_inState m 5 < m 1 0 2)) : (MW (B + 0 * N) m0 (lf_X7_toAll_2 N m c1).1) ∧ ((lf_X7_toAll_2 N m c1).2 = nI N ∨ ¬ ((lf_X7_toAll_2 N m c1).2 < 3000 ∧ x_X7_inState (lf_X7_toAll_2 N m c1).1 5 < (lf_X7_toAll_2 N m c1).1 1 0 2)) := by
  rw [lf_X7_toAll_2_eq]
  unfold ly_X7_toAll_2
  exact itr_inv (n := N) (s := (m, c1)) (P := fun jz s => (MW (B + 0 * jz) m0 s.1) ∧ (s.2 = nI jz ∨ ¬ (s.2 < 3000 ∧ x_X7_inState s.1 5 < s.1 1 0 2))) (fun jz s => bd_X7_toAll_2 jz s.1 s.2) (fun jz s hj hs => fb_X7_toAll_2 (B := B) (m0 := m0) hB (j := jz) (m := s.1) (c1 := s.2) (by omega) hs.1 hs.2) ⟨hW, hn⟩
noncomputable def y_X7_toAll (m : Mem) : Mem × Int32 := (if (x_X7_inState ((lf_X7_toAll_2 3000 m 0).1) 5) = (((lf_X7_toAll_2 3000 m 0).1) 1 0 2) then (((lf_X7_toAll_2 3000 m 0).1), ((lf_X7_toAll_2 3000 m 0).2)) else (((lf_X7_toAll_2 3000 m 0).1), (-1)))
theorem xe_X7_toAll : ∃ f, f = y_X7_toAll := ⟨y_X7_toAll, rfl⟩
noncomputable def x_X7_toAll := Classical.choose xe_X7_toAll
theorem x_X7_toAll_eq : x_X7_toAll = y_X7_toAll := Classical.choose_spec xe_X7_toAll
theorem fw_X7_toAll {m : Mem} {B : Nat} {m0 : Mem} (hW : MW B m0 m) (hB : B + 0 < 2147483648) : MW (B + 0) m0 (x_X7_toAll m).1 := by
  rw [x_X7_toAll_eq]
  unfold y_X7_toAll
  by_cases h44 : (x_X7_inState ((lf_X7_toAll_2 3000 m 0).1) 5) = (((lf_X7_toAll_2 3000 m 0).1) 1 0 2)
  · rw [if_pos h44]
    try dsimp only
    exact MW.mono (MW.mono (fl_X7_toAll_2 (m := m) (c1 := 0) (B := B) (m0 := m0) (by omega) (N := 3000) rfl (MW.mono hW (by omega)) (Or.inl rfl)).1 (B' := B + 0) (by omega)) (by omega)
  · rw [if_neg h44]
    try dsimp only
    exact MW.mono (MW.mono (fl_X7_toAll_2 (m := m) (c1 := 0) (B := B) (m0 := m0) (by omega) (N := 3000) rfl (MW.mono hW (by omega)) (Or.inl rfl)).1 (B' := B + 0) (by omega)) (by omega)
