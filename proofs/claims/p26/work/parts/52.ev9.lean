theorem vn_43 {x : Int32} (h : VN 4 x) (g : ¬ x = 4) : VN 3 x := by
  refine ⟨h.1, ?_⟩
  have b := h.2
  have : ix x ≠ 4 := fun e => g (by rw [h.1, e]; rfl)
  omega
noncomputable def bd_X7_save_10 (j : Nat) (m : Mem) : Mem := (up3 m 2 0 j (m 2 0 (j + 245)))
noncomputable def ly_X7_save_10 (N : Nat) (m : Mem) : Mem := itr (fun jz s => bd_X7_save_10 jz s) N 0 m
theorem le_X7_save_10 : ∃ f, f = ly_X7_save_10 := ⟨ly_X7_save_10, rfl⟩
noncomputable def lf_X7_save_10 := Classical.choose le_X7_save_10
theorem lf_X7_save_10_eq : lf_X7_save_10 = ly_X7_save_10 := Classical.choose_spec le_X7_save_10
theorem fb_X7_save_10 {B : Nat} {m0 : Mem} (hB : B + 0 < 2147483648) {j : Nat} {m : Mem} (hjN : j < 735) (hW : MW (B + 0 * j) m0 m) (h4 : m 0 0 0 = 4) : (MW (B + 0 * (j + 1)) m0 (bd_X7_save_10 j m)) ∧ ((bd_X7_save_10 j m) 0 0 0 = 4) := by
  unfold bd_X7_save_10
  exact ⟨(MW.mono (MW.upo hW (by decide)) (by omega)), ((up3_ne (by simp)).trans h4)⟩
theorem fl_X7_save_10 {B : Nat} {m0 : Mem} (hB : B + 0 < 2147483648) {m : Mem} {N : Nat} (hNl : N = 735) (hW : MW (B + 0 * 0) m0 m) (h4 : m 0 0 0 = 4) : (MW (B + 0 * N) m0 (lf_X7_save_10 N m)) ∧ ((lf_X7_save_10 N m) 0 0 0 = 4) := by
  rw [lf_X7_save_10_eq]
  unfold ly_X7_save_10
  exact itr_inv (n := N) (s := m) (P := fun jz s => (MW (B + 0 * jz) m0 s) ∧ (s 0 0 0 = 4)) (fun jz s => bd_X7_save_10 jz s) (fun jz s hj hs => fb_X7_save_10 (B := B) (m0 := m0) hB (j := jz) (m := s) (by omega) hs.1 hs.2) ⟨hW, h4⟩
noncomputable def bd_X7_save_51 (j : Nat) (m : Mem) : Mem := (up3 m 2 0 ((245 * (ix (m 0 0 0))) + j) (m 1 0 j))
noncomputable def ly_X7_save_51 (N : Nat) (m : Mem) : Mem := itr (fun jz s => bd_X7_save_51 jz s) N 0 m
theorem le_X7_save_51 : ∃ f, f = ly_X7_save_51 := ⟨ly_X7_save_51, rfl⟩
noncomputable def lf_X7_save_51 := Classical.choose le_X7_save_51
theorem lf_X7_save_51_eq : lf_X7_save_51 = ly_X7_save_51 := Classical.choose_spec le_X7_save_51
theorem fb_X7_save_51 {B : Nat} {m0 : Mem} (hB : B + 0 < 2147483648) {j : Nat} {m : Mem} (hjN : j < 245) (hW : MW (B + 0 * j) m0 m) (hS : VN 3 (m 0 0 0)) : (MW (B + 0 * (j + 1)) m0 (bd_X7_save_51 j m)) ∧ (VN 3 ((bd_X7_save_51 j m) 0 0 0)) := by
  unfold bd_X7_save_51
  have b58 := hS.2
  exact ⟨(MW.mono (MW.upo hW (by decide)) (by omega)), (by rw [up3_ne (by simp)]; exact hS)⟩
theorem fl_X7_save_51 {B : Nat} {m0 : Mem} (hB : B + 0 < 2147483648) {m : Mem} {N : Nat} (hNl : N = 245) (hW : MW (B + 0 * 0) m0 m) (hS : VN 3 (m 0 0 0)) : (MW (B + 0 * N) m0 (lf_X7_save_51 N m)) ∧ (VN 3 ((lf_X7_save_51 N m) 0 0 0)) := by
  rw [lf_X7_save_51_eq]
  unfold ly_X7_save_51
  exact itr_inv (n := N) (s := m) (P := fun jz s => (MW (B + 0 * jz) m0 s) ∧ (VN 3 (s 0 0 0))) (fun jz s => bd_X7_save_51 jz s) (fun jz s hj hs => fb_X7_save_51 (B := B) (m0 := m0) hB (j := jz) (m := s) (by omega) hs.1 hs.2) ⟨hW, hS⟩
noncomputable def y_X7_save (m : Mem) : Mem := (if (m 0 0 0) = 4 then (up3 (lf_X7_save_51 245 (up3 (lf_X7_save_10 735 m) 0 0 0 (((lf_X7_save_10 735 m) 0 0 0) - 1))) 0 0 0 (((lf_X7_save_51 245 (up3 (lf_X7_save_10 735 m) 0 0 0 (((lf_X7_save_10 735 m) 0 0 0) - 1))) 0 0 0) + 1)) else (up3 (lf_X7_save_51 245 m) 0 0 0 (((lf_X7_save_51 245 m) 0 0 0) + 1)))
theorem xe_X7_save : ∃ f, f = y_X7_save := ⟨y_X7_save, rfl⟩
noncomputable def x_X7_save := Classical.choose xe_X7_save
theorem x_X7_save_eq : x_X7_save = y_X7_save := Classical.choose_spec xe_X7_save
theorem fw_X7_save {m : Mem} {B : Nat} {m0 : Mem} (hW : MW B m0 m) (hB : B + 0 < 2147483648) (hs : VN 4 (m 0 0 0)) : MW (B + 0) m0 (x_X7_save m) := by
  rw [x_X7_save_eq]
  unfold y_X7_save
  by_cases h5 : (m 0 0 0) = 4
  · rw [if_pos h5]
    exact MW.mono (MW.upo (MW.mono (fl_X7_save_51 (m := (up3 (lf_X7_save_10 735 m) 0 0 0 (((lf_X7_save_10 735 m) 0 0 0) - 1))) (B := B) (m0 := m0) (by omega) (N := 245) rfl (MW.mono (MW.upo (MW.mono (fl_X7_save_10 (m := m) (B := B) (m0 := m0) (by omega) (N := 735) rfl (MW.mono hW (by omega)) h5).1 (B' := B + 0) (by omega)) (by decide)) (by omega)) (by first | exact vn_43 hs h5 | (rw [up3_self, (fl_X7_save_10 (N := 735) (m0 := m0) hB rfl hW h5).2]; exact ⟨by decide, by decide⟩))).1 (B' := B + 0) (by omega)) (by decide)) (by omega)
  · rw [if_neg h5]
    exact MW.mono (MW.upo (MW.mono (fl_X7_save_51 (m := m) (B := B) (m0 := m0) (by omega) (N := 245) rfl (MW.mono hW (by omega)) (by first | exact vn_43 hs h5 | (rw [up3_self, (fl_X7_save_10 (N := 735) (m0 := m0) hB rfl hW h5).2]; exact ⟨by decide, by decide⟩))).1 (B' := B + 0) (by omega)) (by decide)) (by omega)
