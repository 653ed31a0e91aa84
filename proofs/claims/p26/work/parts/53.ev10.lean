theorem mw_c2 {B : Nat} {m0 m : Mem} (h : MW B m0 m) : MW B (up3 m 1 0 2 0) (up3 m 1 0 2 0) := by
  refine ⟨⟨?_, ?_, ?_, ?_, ?_, ?_, ?_⟩, rfl, fun q hq => rfl⟩
  · rw [up3_k (by decide)]; exact h.1.1
  · rw [up3_k (by decide)]; exact h.1.2.1
  · rw [up3_self]; exact ⟨by decide, by decide⟩
  · rw [up3_k (by decide)]; exact h.1.2.2.2.1
  · rw [up3_k (by decide)]; exact h.1.2.2.2.2.1
  · rw [up3_k (by decide)]; exact h.1.2.2.2.2.2.1
  · rw [up3_k (by decide)]; exact h.1.2.2.2.2.2.2
theorem mw_cnt {B : Nat} {m0 m : Mem} {p1 p2 : Int32} (h : MW B m0 m) (h1 : VN 6 p1) (h2 : VN 3 p2) : MW B (up3 (up3 m 1 0 0 p1) 1 0 1 p2) (up3 (up3 m 1 0 0 p1) 1 0 1 p2) := by
  refine ⟨⟨?_, ?_, ?_, ?_, ?_, ?_, ?_⟩, rfl, fun q hq => rfl⟩
  · rw [up3_k (by decide), up3_self]; exact h1
  · rw [up3_self]; exact h2
  · rw [up3_k (by decide), up3_k (by decide)]; exact h.1.2.2.1
  · rw [up3_k (by decide), up3_k (by decide)]; exact h.1.2.2.2.1
  · rw [up3_k (by decide), up3_k (by decide)]; exact h.1.2.2.2.2.1
  · rw [up3_k (by decide), up3_k (by decide)]; exact h.1.2.2.2.2.2.1
  · rw [up3_k (by decide), up3_k (by decide)]; exact h.1.2.2.2.2.2.2
noncomputable def bd_X7_clears_32 (j : Nat) (m : Mem) : Mem := (up3 m 1 0 (8 + 2 * j + 1) 0)
noncomputable def ly_X7_clears_32 (N : Nat) (m : Mem) : Mem := itr (fun jz s => bd_X7_clears_32 jz s) N 0 m
theorem le_X7_clears_32 : ∃ f, f = ly_X7_clears_32 := ⟨ly_X7_clears_32, rfl⟩
noncomputable def lf_X7_clears_32 := Classical.choose le_X7_clears_32
theorem lf_X7_clears_32_eq : lf_X7_clears_32 = ly_X7_clears_32 := Classical.choose_spec le_X7_clears_32
theorem fb_X7_clears_32 {B : Nat} {m0 : Mem} (hB : B + 0 < 2147483648) {j : Nat} {m : Mem} (hjN : j < 6) (hW : MW (B + 0 * j) m0 m) : (MW (B + 0 * (j + 1)) m0 (bd_X7_clears_32 j m)) := by
  unfold bd_X7_clears_32
  exact (MW.mono (MW.up hW (by unfold mok; omega)) (by omega))
theorem fl_X7_clears_32 {B : Nat} {m0 : Mem} (hB : B + 0 < 2147483648) {m : Mem} {N : Nat} (hNl : N = 6) (hW : MW (B + 0 * 0) m0 m) : (MW (B + 0 * N) m0 (lf_X7_clears_32 N m)) := by
  rw [lf_X7_clears_32_eq]
  unfold ly_X7_clears_32
  exact itr_inv (n := N) (s := m) (P := fun jz s => (MW (B + 0 * jz) m0 s)) (fun jz s => bd_X7_clears_32 jz s) (fun jz s hj hs => fb_X7_clears_32 (B := B) (m0 := m0) hB (j := jz) (m := s) (by omega) hs) hW
noncomputable def bd_X7_clears_57 (j : Nat) (m : Mem) : Mem := (up3 (up3 (up3 (up3 m 1 0 (20 + 5 * j + 1) (-1)) 1 0 (20 + 5 * j + 2) 0) 1 0 (20 + 5 * j + 3) 0) 1 0 (20 + 5 * j + 4) 0)
noncomputable def ly_X7_clears_57 (N : Nat) (m : Mem) : Mem := itr (fun jz s => bd_X7_clears_57 jz s) N 0 m
theorem le_X7_clears_57 : ∃ f, f = ly_X7_clears_57 := ⟨ly_X7_clears_57, rfl⟩
noncomputable def lf_X7_clears_57 := Classical.choose le_X7_clears_57
theorem lf_X7_clears_57_eq : lf_X7_clears_57 = ly_X7_clears_57 := Classical.choose_spec le_X7_clears_57
theorem fb_X7_clears_57 {B : Nat} {m0 : Mem} (hB : B + 0 < 2147483648) {j : Nat} {m : Mem} (hjN : j < 3) (hW : MW (B + 0 * j) m0 m) : (MW (B + 0 * (j + 1)) m0 (bd_X7_clears_57 j m)) := by
  unfold bd_X7_clears_57
  exact (MW.mono (MW.up (MW.up (MW.up (MW.upT hW (by omega) (Or.inl rfl)) (by unfold mok; omega)) (by unfold mok; omega)) (by unfold mok; omega)) (by omega))
theorem fl_X7_clears_57 {B : Nat} {m0 : Mem} (hB : B + 0 < 2147483648) {m : Mem} {N : Nat} (hNl : N = 3) (hW : MW (B + 0 * 0) m0 m) : (MW (B + 0 * N) m0 (lf_X7_clears_57 N m)) := by
  rw [lf_X7_clears_57_eq]
  unfold ly_X7_clears_57
  exact itr_inv (n := N) (s := m) (P := fun jz s => (MW (B + 0 * jz) m0 s)) (fun jz s => bd_X7_clears_57 jz s) (fun jz s hj hs => fb_X7_clears_57 (B := B) (m0 := m0) hB (j := jz) (m := s) (by omega) hs) hW
noncomputable def bd_X7_clears_115 (j : Nat) (m : Mem) : Mem := (up3 m 1 0 (35 + j) 0)
noncomputable def ly_X7_clears_115 (N : Nat) (m : Mem) : Mem := itr (fun jz s => bd_X7_clears_115 jz s) N 0 m
theorem le_X7_clears_115 : ∃ f, f = ly_X7_clears_115 := ⟨ly_X7_clears_115, rfl⟩
noncomputable def lf_X7_clears_115 := Classical.choose le_X7_clears_115
theorem lf_X7_clears_115_eq : lf_X7_clears_115 = ly_X7_clears_115 := Classical.choose_spec le_X7_clears_115
theorem fb_X7_clears_115 {B : Nat} {m0 : Mem} (hB : B + 0 < 2147483648) {j : Nat} {m : Mem} (hjN : j < 210) (hW : MW (B + 0 * j) m0 m) : (MW (B + 0 * (j + 1)) m0 (bd_X7_clears_115 j m)) := by
  unfold bd_X7_clears_115
  exact (MW.mono (MW.up hW (by unfold mok; omega)) (by omega))
theorem fl_X7_clears_115 {B : Nat} {m0 : Mem} (hB : B + 0 < 2147483648) {m : Mem} {N : Nat} (hNl : N = 210) (hW : MW (B + 0 * 0) m0 m) : (MW (B + 0 * N) m0 (lf_X7_clears_115 N m)) := by
  rw [lf_X7_clears_115_eq]
  unfold ly_X7_clears_115
  exact itr_inv (n := N) (s := m) (P := fun jz s => (MW (B + 0 * jz) m0 s)) (fun jz s => bd_X7_clears_115 jz s) (fun jz s hj hs => fb_X7_clears_115 (B := B) (m0 := m0) hB (j := jz) (m := s) (by omega) hs) hW
noncomputable def y_X7_clears (m : Mem) : Mem := (lf_X7_clears_115 210 (lf_X7_clears_57 3 (lf_X7_clears_32 6 (up3 (up3 (up3 (up3 m 1 0 2 0) 1 0 3 0) 1 0 6 0) 1 0 7 0))))
theorem xe_X7_clears : ∃ f, f = y_X7_clears := ⟨y_X7_clears, rfl⟩
noncomputable def x_X7_clears := Classical.choose xe_X7_clears
theorem x_X7_clears_eq : x_X7_clears = y_X7_clears := Classical.choose_spec xe_X7_clears
theorem fw_X7_clears {m : Mem} {B : Nat} {m0 : Mem} (hW : MW B m0 m) (hB : B + 0 < 2147483648) : MW (B + 0) (up3 m 1 0 2 0) (x_X7_clears m) := by
  rw [x_X7_clears_eq]
  unfold y_X7_clears
  exact MW.mono (MW.mono (fl_X7_clears_115 (m := (lf_X7_clears_57 3 (lf_X7_clears_32 6 (up3 (up3 (up3 (up3 m 1 0 2 0) 1 0 3 0) 1 0 6 0) 1 0 7 0)))) (B := B) (m0 := (up3 m 1 0 2 0)) (by omega) (N := 210) rfl (MW.mono (MW.mono (fl_X7_clears_57 (m := (lf_X7_clears_32 6 (up3 (up3 (up3 (up3 m 1 0 2 0) 1 0 3 0) 1 0 6 0) 1 0 7 0))) (B := B) (m0 := (up3 m 1 0 2 0)) (by omega) (N := 3) rfl (MW.mono (MW.mono (fl_X7_clears_32 (m := (up3 (up3 (up3 (up3 m 1 0 2 0) 1 0 3 0) 1 0 6 0) 1 0 7 0)) (B := B) (m0 := (up3 m 1 0 2 0)) (by omega) (N := 6) rfl (MW.mono (MW.upE (MW.up (MW.up (mw_c2 hW) (by unfold mok; omega)) (by unfold mok; omega)) ⟨by decide, by decide⟩) (by omega))) (B' := B + 0) (by omega)) (by omega))) (B' := B + 0) (by omega)) (by omega))) (B' := B + 0) (by omega)) (by omega)
noncomputable def bd_X7_begins_16 (w1 : Int32) (w2 : Int32) (j : Nat) (m : Mem) : Mem := (up3 m 1 0 (8 + 2 * j + 0) 2)
noncomputable def ly_X7_begins_16 (w1 : Int32) (w2 : Int32) (N : Nat) (m : Mem) : Mem := itr (fun jz s => bd_X7_begins_16 w1 w2 jz s) N 0 m
theorem le_X7_begins_16 : ∃ f, f = ly_X7_begins_16 := ⟨ly_X7_begins_16, rfl⟩
noncomputable def lf_X7_begins_16 := Classical.choose le_X7_begins_16
theorem lf_X7_begins_16_eq : lf_X7_begins_16 = ly_X7_begins_16 := Classical.choose_spec le_X7_begins_16
theorem fb_X7_begins_16 {B : Nat} {m0 : Mem} {w1 : Int32} {w2 : Int32} (hB : B + 0 < 2147483648) {j : Nat} {m : Mem} (hjN : j < 6) (hW : MW (B + 0 * j) m0 m) : (MW (B + 0 * (j + 1)) m0 (bd_X7_begins_16 w1 w2 j m)) := by
  unfold bd_X7_begins_16
  exact (MW.mono (MW.up hW (by unfold mok; omega)) (by omega))
theorem fl_X7_begins_16 {B : Nat} {m0 : Mem} {w1 : Int32} {w2 : Int32} (hB : B + 0 < 2147483648) {m : Mem} {N : Nat} (hNl : N = 6) (hW : MW (B + 0 * 0) m0 m) : (MW (B + 0 * N) m0 (lf_X7_begins_16 w1 w2 N m)) := by
  rw [lf_X7_begins_16_eq]
  unfold ly_X7_begins_16
  exact itr_inv (n := N) (s := m) (P := fun jz s => (MW (B + 0 * jz) m0 s)) (fun jz s => bd_X7_begins_16 w1 w2 jz s) (fun jz s hj hs => fb_X7_begins_16 (B := B) (m0 := m0) hB (j := jz) (m := s) (by omega) hs) hW
noncomputable def bd_X7_begins_41 (w1 : Int32) (w2 : Int32) (j : Nat) (m : Mem) : Mem := (up3 m 1 0 (20 + 5 * j + 0) 3)
noncomputable def ly_X7_begins_41 (w1 : Int32) (w2 : Int32) (N : Nat) (m : Mem) : Mem := itr (fun jz s => bd_X7_begins_41 w1 w2 jz s) N 0 m
theorem le_X7_begins_41 : ∃ f, f = ly_X7_begins_41 := ⟨ly_X7_begins_41, rfl⟩
noncomputable def lf_X7_begins_41 := Classical.choose le_X7_begins_41
theorem lf_X7_begins_41_eq : lf_X7_begins_41 = ly_X7_begins_41 := Classical.choose_spec le_X7_begins_41
theorem fb_X7_begins_41 {B : Nat} {m0 : Mem} {w1 : Int32} {w2 : Int32} (hB : B + 0 < 2147483648) {j : Nat} {m : Mem} (hjN : j < 3) (hW : MW (B + 0 * j) m0 m) : (MW (B + 0 * (j + 1)) m0 (bd_X7_begins_41 w1 w2 j m)) := by
  unfold bd_X7_begins_41
  exact (MW.mono (MW.up hW (by unfold mok; omega)) (by omega))
theorem fl_X7_begins_41 {B : Nat} {m0 : Mem} {w1 : Int32} {w2 : Int32} (hB : B + 0 < 2147483648) {m : Mem} {N : Nat} (hNl : N = 3) (hW : MW (B + 0 * 0) m0 m) : (MW (B + 0 * N) m0 (lf_X7_begins_41 w1 w2 N m)) := by
  rw [lf_X7_begins_41_eq]
  unfold ly_X7_begins_41
  exact itr_inv (n := N) (s := m) (P := fun jz s => (MW (B + 0 * jz) m0 s)) (fun jz s => bd_X7_begins_41 w1 w2 jz s) (fun jz s hj hs => fb_X7_begins_41 (B := B) (m0 := m0) hB (j := jz) (m := s) (by omega) hs) hW
noncomputable def y_X7_begins (m : Mem) (p1 : Int32) (p2 : Int32) : Mem := (x_X7_clears (lf_X7_begins_41 p1 p2 3 (lf_X7_begins_16 p1 p2 6 (up3 (up3 m 1 0 0 p1) 1 0 1 p2))))
theorem xe_X7_begins : ∃ f, f = y_X7_begins := ⟨y_X7_begins, rfl⟩
noncomputable def x_X7_begins := Classical.choose xe_X7_begins
theorem x_X7_begins_eq : x_X7_begins = y_X7_begins := Classical.choose_spec xe_X7_begins
