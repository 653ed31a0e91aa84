theorem vn_12 {x : Int32} (h : VN 12 x) (g : ¬ x = 12) : ix x < 12 := by
  have b := h.2
  have : ix x ≠ 12 := fun e => g (by rw [h.1, e]; rfl)
  omega
theorem vn_3 {x : Int32} (h : VN 3 x) (g : ¬ x = 3) : ix x < 3 := by
  have b := h.2
  have : ix x ≠ 3 := fun e => g (by rw [h.1, e]; rfl)
  omega
theorem mw_c12 {B B' : Nat} {m0 m m' : Mem} (h : MW B' m0 m') (hW : MW B m0 m) (g : ¬ m 1 0 2 = 12) : ix (m' 1 0 2) < 12 := by
  rw [MW.same h hW (by decide)]
  exact vn_12 hW.1.na g
theorem vn_41 {x : Int32} (h : VN 4 x) (g : ¬ x = 0) : VN 3 (x - 1) := by
  have b := h.2
  have e := h.1
  have n0 : ix x ≠ 0 := fun z => g (by rw [e, z]; rfl)
  have e2 : x - 1 = nI (ix x - 1) := by
    conv => lhs; rw [e]
    exact pk_sub (b := 1) (by omega)
  unfold VN
  rw [e2, ix_nI (by omega)]
  exact ⟨rfl, by omega⟩
theorem mw_addt {B B' : Nat} {m0 m m' : Mem} (hW : MW B m0 m) (hc : ¬ m 1 0 1 = 3) (h : MW B' m0 m') : MW B' (up3 m0 1 0 1 (m0 1 0 1 + 1)) (up3 m' 1 0 1 (m' 1 0 1 + 1)) := by
  have e : m' 1 0 1 = m0 1 0 1 := h.2.2 1 (by decide)
  have e2 : m 1 0 1 = m0 1 0 1 := hW.2.2 1 (by decide)
  have hc := vn_3 hW.1.nt hc
  rw [e2] at hc
  have hv : VN 3 (m0 1 0 1 + 1) := by
    have q := hW.1.nt.1
    rw [e2] at q
    have e3 : m0 1 0 1 + 1 = nI (ix (m0 1 0 1) + 1) := by rw [← nI_1, ← q]
    unfold VN
    rw [e3, ix_nI (by omega)]
    exact ⟨rfl, by omega⟩
  refine ⟨⟨?_, ?_, ?_, ?_, ?_, ?_, ?_⟩, rfl, fun q hq => ?_⟩
  · rw [up3_k (by decide)]; exact h.1.1
  · rw [up3_self, e]; exact hv
  · rw [up3_k (by decide)]; exact h.1.2.2.1
  · rw [up3_k (by decide)]; exact h.1.2.2.2.1
  · rw [up3_k (by decide)]; exact h.1.2.2.2.2.1
  · rw [up3_k (by decide)]; exact h.1.2.2.2.2.2.1
  · rw [up3_k (by decide)]; exact h.1.2.2.2.2.2.2
  · by_cases g : q = 1
    · subst g
      rw [up3_self, up3_self, e]
    · rw [up3_k g, up3_k g]
      exact h.2.2 q hq
noncomputable def y_X7_setCurfew (m : Mem) (p1 : Int32) (p2 : Int32) : Mem × Int32 := (if (x_X7_in ((p1).toInt64) 0 1440) = true then (if (x_X7_in ((p2).toInt64) 0 1440) = true then (if p1 < p2 then ((x_X7_fine (up3 (up3 (x_X7_save m) 1 0 4 p1) 1 0 5 p2) (p2 - p1)).1, (x_X7_fine (up3 (up3 (x_X7_save m) 1 0 4 p1) 1 0 5 p2) (p2 - p1)).2) else ((x_X7_fine (up3 (up3 (x_X7_save m) 1 0 4 p1) 1 0 5 p2) 0).1, (x_X7_fine (up3 (up3 (x_X7_save m) 1 0 4 p1) 1 0 5 p2) 0).2)) else ((x_X7_throwing m 1).1, (x_X7_throwing m 1).2)) else ((x_X7_throwing m 1).1, (x_X7_throwing m 1).2))
theorem xe_X7_setCurfew : ∃ f, f = y_X7_setCurfew := ⟨y_X7_setCurfew, rfl⟩
noncomputable def x_X7_setCurfew := Classical.choose xe_X7_setCurfew
theorem x_X7_setCurfew_eq : x_X7_setCurfew = y_X7_setCurfew := Classical.choose_spec xe_X7_setCurfew
noncomputable def y_X7_expect (m : Mem) (p1 : Int32) (p2 : Int32) (p3 : Int32) (p4 : Int32) : Mem × Int32 := (if (x_X7_in ((p1).toInt64) 11 43) = true then (if (x_X7_in (((p1 - p1 / 10 * 10)).toInt64) 1 3) = true then (if (x_X7_in ((p2).toInt64) 0 1999) = true then (if p2 < p3 then (if 1999 < p3 then ((x_X7_throwing m 1).1, (x_X7_throwing m 1).2) else (if (x_X7_in ((p4).toInt64) 0 400) = true then (if (m 1 0 2) = 12 then ((x_X7_throwing m 2).1, (x_X7_throwing m 2).2) else ((x_X7_fine (x_X7_adds (x_X7_save m) (p1 / 10) (p1 - p1 / 10 * 10) p2 p3 p4) (((x_X7_adds (x_X7_save m) (p1 / 10) (p1 - p1 / 10 * 10) p2 p3 p4) 1 0 2) - 1)).1, (x_X7_fine (x_X7_adds (x_X7_save m) (p1 / 10) (p1 - p1 / 10 * 10) p2 p3 p4) (((x_X7_adds (x_X7_save m) (p1 / 10) (p1 - p1 / 10 * 10) p2 p3 p4) 1 0 2) - 1)).2)) else ((x_X7_throwing m 1).1, (x_X7_throwing m 1).2))) else ((x_X7_throwing m 1).1, (x_X7_throwing m 1).2)) else ((x_X7_throwing m 1).1, (x_X7_throwing m 1).2)) else ((x_X7_throwing m 1).1, (x_X7_throwing m 1).2)) else ((x_X7_throwing m 1).1, (x_X7_throwing m 1).2))
theorem xe_X7_expect : ∃ f, f = y_X7_expect := ⟨y_X7_expect, rfl⟩
noncomputable def x_X7_expect := Classical.choose xe_X7_expect
theorem x_X7_expect_eq : x_X7_expect = y_X7_expect := Classical.choose_spec xe_X7_expect
noncomputable def bd_X7_pass_50 (w1 : Int32) (w2 : Int32) (j : Nat) (m : Mem) : Mem := (x_X7_minute m)
noncomputable def ly_X7_pass_50 (w1 : Int32) (w2 : Int32) (N : Nat) (m : Mem) : Mem := itr (fun jz s => bd_X7_pass_50 w1 w2 jz s) N 0 m
theorem le_X7_pass_50 : ∃ f, f = ly_X7_pass_50 := ⟨ly_X7_pass_50, rfl⟩
noncomputable def lf_X7_pass_50 := Classical.choose le_X7_pass_50
theorem lf_X7_pass_50_eq : lf_X7_pass_50 = ly_X7_pass_50 := Classical.choose_spec le_X7_pass_50
theorem fb_X7_pass_50 {B : Nat} {m0 : Mem} {w1 : Int32} {w2 : Int32} (hB : B + 0 < 2147483648) {j : Nat} {m : Mem} (hjN : j < 500) (hW : MW (B + 0 * j) m0 m) : (MW (B + 0 * (j + 1)) m0 (bd_X7_pass_50 w1 w2 j m)) := by
  unfold bd_X7_pass_50
  exact (MW.mono (fw_X7_minute hW (by omega)) (by omega))
theorem fl_X7_pass_50 {B : Nat} {m0 : Mem} {w1 : Int32} {w2 : Int32} {N : Nat} (hB : B + 0 < 2147483648) {m : Mem} (hNc : N ≤ 500) (hW : MW (B + 0 * 0) m0 m) : (MW (B + 0 * N) m0 (lf_X7_pass_50 w1 w2 N m)) := by
  rw [lf_X7_pass_50_eq]
  unfold ly_X7_pass_50
  exact itr_inv (n := N) (s := m) (P := fun jz s => (MW (B + 0 * jz) m0 s)) (fun jz s => bd_X7_pass_50 w1 w2 jz s) (fun jz s hj hs => fb_X7_pass_50 (B := B) (m0 := m0) hB (j := jz) (m := s) (by omega) hs) hW
noncomputable def y_X7_pass (m : Mem) (p1 : Int32) : Mem × Int32 := (if (x_X7_in ((p1).toInt64) 1 500) = true then (if 10000 < ((m 1 0 3) + p1) then ((x_X7_throwing m 2).1, (x_X7_throwing m 2).2) else ((x_X7_fine (lf_X7_pass_50 p1 (x_X7_inState (x_X7_save m) 5) (ix p1) (x_X7_save m)) ((x_X7_inState (lf_X7_pass_50 p1 (x_X7_inState (x_X7_save m) 5) (ix p1) (x_X7_save m)) 5) - (x_X7_inState (x_X7_save m) 5))).1, (x_X7_fine (lf_X7_pass_50 p1 (x_X7_inState (x_X7_save m) 5) (ix p1) (x_X7_save m)) ((x_X7_inState (lf_X7_pass_50 p1 (x_X7_inState (x_X7_save m) 5) (ix p1) (x_X7_save m)) 5) - (x_X7_inState (x_X7_save m) 5))).2)) else ((x_X7_throwing m 1).1, (x_X7_throwing m 1).2))
theorem xe_X7_pass : ∃ f, f = y_X7_pass := ⟨y_X7_pass, rfl⟩
noncomputable def x_X7_pass := Classical.choose xe_X7_pass
theorem x_X7_pass_eq : x_X7_pass = y_X7_pass := Classical.choose_spec xe_X7_pass
noncomputable def bd_X7_delayOf_20 (w1 : Int32) (j : Nat) (m : Mem) : Mem := (if (x_X7_of m (ix w1) 7) = (-1) then (x_X7_minute m) else m)
noncomputable def ly_X7_delayOf_20 (w1 : Int32) (N : Nat) (m : Mem) : Mem := itr (fun jz s => bd_X7_delayOf_20 w1 jz s) N 0 m
theorem le_X7_delayOf_20 : ∃ f, f = ly_X7_delayOf_20 := ⟨ly_X7_delayOf_20, rfl⟩
noncomputable def lf_X7_delayOf_20 := Classical.choose le_X7_delayOf_20
theorem lf_X7_delayOf_20_eq : lf_X7_delayOf_20 = ly_X7_delayOf_20 := Classical.choose_spec le_X7_delayOf_20
theorem fb_X7_delayOf_20 {B : Nat} {m0 : Mem} {w1 : Int32} (hB : B + 0 < 2147483648) (hw1 : w1 = nI (ix w1)) (hw2 : ix w1 < 12) {j : Nat} {m : Mem} (hjN : j < 3000) (hW : MW (B + 0 * j) m0 m) : (MW (B + 0 * (j + 1)) m0 (bd_X7_delayOf_20 w1 j m)) := by
  unfold bd_X7_delayOf_20
  by_cases h35 : (x_X7_of m (ix w1) 7) = (-1)
  · rw [if_pos h35]
    exact (MW.mono (fw_X7_minute hW (by omega)) (by omega))
  · rw [if_neg h35]
    exact (MW.mono hW (by omega))
theorem fl_X7_delayOf_20 {B : Nat} {m0 : Mem} {w1 : Int32} (hB : B + 0 < 2147483648) (hw1 : w1 = nI (ix w1)) (hw2 : ix w1 < 12) {m : Mem} {N : Nat} (hNl : N = 3000) (hW : MW (B + 0 * 0) m0 m) : (MW (B + 0 * N) m0 (lf_X7_delayOf_20 w1 N m)) := by
  rw [lf_X7_delayOf_20_eq]
  unfold ly_X7_delayOf_20
  exact itr_inv (n := N) (s := m) (P := fun jz s => (MW (B + 0 * jz) m0 s)) (fun jz s => bd_X7_delayOf_20 w1 jz s) (fun jz s hj hs => fb_X7_delayOf_20 (B := B) (m0 := m0) hB hw1 hw2 (j := jz) (m := s) (by omega) hs) hW
noncomputable def y_X7_delayOf (m : Mem) (p1 : Int32) : Mem × Int32 := (if (x_X7_isPlane m p1) = true then ((x_X7_fine (x_X7_takesBack (lf_X7_delayOf_20 p1 3000 (x_X7_laysAside m))) (x_X7_of (lf_X7_delayOf_20 p1 3000 (x_X7_laysAside m)) (ix p1) 7)).1, (x_X7_fine (x_X7_takesBack (lf_X7_delayOf_20 p1 3000 (x_X7_laysAside m))) (x_X7_of (lf_X7_delayOf_20 p1 3000 (x_X7_laysAside m)) (ix p1) 7)).2) else ((x_X7_throwing m 1).1, (x_X7_throwing m 1).2))
theorem xe_X7_delayOf : ∃ f, f = y_X7_delayOf := ⟨y_X7_delayOf, rfl⟩
noncomputable def x_X7_delayOf := Classical.choose xe_X7_delayOf
theorem x_X7_delayOf_eq : x_X7_delayOf = y_X7_delayOf := Classical.choose_spec xe_X7_delayOf
noncomputable def y_X7_minutesToAll (m : Mem) : Mem × Int32 := ((x_X7_fine ((x_X7_minutesIf m).1) ((x_X7_minutesIf m).2)).1, (x_X7_fine ((x_X7_minutesIf m).1) ((x_X7_minutesIf m).2)).2)
theorem xe_X7_minutesToAll : ∃ f, f = y_X7_minutesToAll := ⟨y_X7_minutesToAll, rfl⟩
noncomputable def x_X7_minutesToAll := Classical.choose xe_X7_minutesToAll
theorem x_X7_minutesToAll_eq : x_X7_minutesToAll = y_X7_minutesToAll := Classical.choose_spec xe_X7_minutesToAll
noncomputable def bd_X7_undo_25 (j : Nat) (m : Mem) : Mem := (up3 m 1 0 j (m 2 0 ((245 * (ix (m 0 0 0))) + j)))
noncomputable def ly_X7_undo_25 (N : Nat) (m : Mem) : Mem := itr (fun jz s => bd_X7_undo_25 jz s) N 0 m
theorem le_X7_undo_25 : ∃ f, f = ly_X7_undo_25 := ⟨ly_X7_undo_25, rfl⟩
noncomputable def lf_X7_undo_25 := Classical.choose le_X7_undo_25
theorem lf_X7_undo_25_eq : lf_X7_undo_25 = ly_X7_undo_25 := Classical.choose_spec le_X7_undo_25
theorem fb_X7_undo_25 {j : Nat} {m : Mem} (hjN : j < 245) (hS : VN 3 (m 0 0 0)) : (VN 3 ((bd_X7_undo_25 j m) 0 0 0)) := by
  unfold bd_X7_undo_25
  have b32 := hS.2
  exact (by rw [up3_ne (by simp)]; exact hS)
theorem fl_X7_undo_25 {m : Mem} {N : Nat} (hNl : N = 245) (hS : VN 3 (m 0 0 0)) : (VN 3 ((lf_X7_undo_25 N m) 0 0 0)) := by
  rw [lf_X7_undo_25_eq]
  unfold ly_X7_undo_25
  exact itr_inv (n := N) (s := m) (P := fun jz s => (VN 3 (s 0 0 0))) (fun jz s => bd_X7_undo_25 jz s) (fun jz s hj hs => fb_X7_undo_25 (j := jz) (m := s) (by omega) hs) hS
noncomputable def y_X7_undo (m : Mem) : Mem × Int32 := (if (m 0 0 0) = 0 then ((x_X7_throwing m 1).1, (x_X7_throwing m 1).2) else ((x_X7_fine (lf_X7_undo_25 245 (up3 m 0 0 0 ((m 0 0 0) - 1))) ((lf_X7_undo_25 245 (up3 m 0 0 0 ((m 0 0 0) - 1))) 0 0 0)).1, (x_X7_fine (lf_X7_undo_25 245 (up3 m 0 0 0 ((m 0 0 0) - 1))) ((lf_X7_undo_25 245 (up3 m 0 0 0 ((m 0 0 0) - 1))) 0 0 0)).2))
theorem xe_X7_undo : ∃ f, f = y_X7_undo := ⟨y_X7_undo, rfl⟩
noncomputable def x_X7_undo := Classical.choose xe_X7_undo
theorem x_X7_undo_eq : x_X7_undo = y_X7_undo := Classical.choose_spec xe_X7_undo
noncomputable def y_X7_delaysWithTug (m : Mem) (p1 : Int32) : Mem × Int32 := (if (x_X7_in ((p1).toInt64) 1 3) = true then (if (m 1 0 1) = 3 then ((x_X7_fine m (-1)).1, (x_X7_fine m (-1)).2) else (if (x_X7_toAll (up3 (up3 (up3 (up3 (x_X7_laysAside m) 1 0 (20 + 5 * (ix (m 1 0 1)) + 0) p1) 1 0 (20 + 5 * (ix (m 1 0 1)) + 1) (-1)) 1 0 (20 + 5 * (ix (m 1 0 1)) + 2) 0) 1 0 1 (((up3 (up3 (up3 (x_X7_laysAside m) 1 0 (20 + 5 * (ix (m 1 0 1)) + 0) p1) 1 0 (20 + 5 * (ix (m 1 0 1)) + 1) (-1)) 1 0 (20 + 5 * (ix (m 1 0 1)) + 2) 0) 1 0 1) + 1))).2 = (-1) then ((x_X7_fine (x_X7_takesBack ((x_X7_toAll (up3 (up3 (up3 (up3 (x_X7_laysAside m) 1 0 (20 + 5 * (ix (m 1 0 1)) + 0) p1) 1 0 (20 + 5 * (ix (m 1 0 1)) + 1) (-1)) 1 0 (20 + 5 * (ix (m 1 0 1)) + 2) 0) 1 0 1 (((up3 (up3 (up3 (x_X7_laysAside m) 1 0 (20 + 5 * (ix (m 1 0 1)) + 0) p1) 1 0 (20 + 5 * (ix (m 1 0 1)) + 1) (-1)) 1 0 (20 + 5 * (ix (m 1 0 1)) + 2) 0) 1 0 1) + 1))).1)) (-1)).1, (x_X7_fine (x_X7_takesBack ((x_X7_toAll (up3 (up3 (up3 (up3 (x_X7_laysAside m) 1 0 (20 + 5 * (ix (m 1 0 1)) + 0) p1) 1 0 (20 + 5 * (ix (m 1 0 1)) + 1) (-1)) 1 0 (20 + 5 * (ix (m 1 0 1)) + 2) 0) 1 0 1 (((up3 (up3 (up3 (x_X7_laysAside m) 1 0 (20 + 5 * (ix (m 1 0 1)) + 0) p1) 1 0 (20 + 5 * (ix (m 1 0 1)) + 1) (-1)) 1 0 (20 + 5 * (ix (m 1 0 1)) + 2) 0) 1 0 1) + 1))).1)) (-1)).2) else ((x_X7_fine (x_X7_takesBack ((x_X7_toAll (up3 (up3 (up3 (up3 (x_X7_laysAside m) 1 0 (20 + 5 * (ix (m 1 0 1)) + 0) p1) 1 0 (20 + 5 * (ix (m 1 0 1)) + 1) (-1)) 1 0 (20 + 5 * (ix (m 1 0 1)) + 2) 0) 1 0 1 (((up3 (up3 (up3 (x_X7_laysAside m) 1 0 (20 + 5 * (ix (m 1 0 1)) + 0) p1) 1 0 (20 + 5 * (ix (m 1 0 1)) + 1) (-1)) 1 0 (20 + 5 * (ix (m 1 0 1)) + 2) 0) 1 0 1) + 1))).1)) (x_X7_delays ((x_X7_toAll (up3 (up3 (up3 (up3 (x_X7_laysAside m) 1 0 (20 + 5 * (ix (m 1 0 1)) + 0) p1) 1 0 (20 + 5 * (ix (m 1 0 1)) + 1) (-1)) 1 0 (20 + 5 * (ix (m 1 0 1)) + 2) 0) 1 0 1 (((up3 (up3 (up3 (x_X7_laysAside m) 1 0 (20 + 5 * (ix (m 1 0 1)) + 0) p1) 1 0 (20 + 5 * (ix (m 1 0 1)) + 1) (-1)) 1 0 (20 + 5 * (ix (m 1 0 1)) + 2) 0) 1 0 1) + 1))).1) 0)).1, (x_X7_fine (x_X7_takesBack ((x_X7_toAll (up3 (up3 (up3 (up3 (x_X7_laysAside m) 1 0 (20 + 5 * (ix (m 1 0 1)) + 0) p1) 1 0 (20 + 5 * (ix (m 1 0 1)) + 1) (-1)) 1 0 (20 + 5 * (ix (m 1 0 1)) + 2) 0) 1 0 1 (((up3 (up3 (up3 (x_X7_laysAside m) 1 0 (20 + 5 * (ix (m 1 0 1)) + 0) p1) 1 0 (20 + 5 * (ix (m 1 0 1)) + 1) (-1)) 1 0 (20 + 5 * (ix (m 1 0 1)) + 2) 0) 1 0 1) + 1))).1)) (x_X7_delays ((x_X7_toAll (up3 (up3 (up3 (up3 (x_X7_laysAside m) 1 0 (20 + 5 * (ix (m 1 0 1)) + 0) p1) 1 0 (20 + 5 * (ix (m 1 0 1)) + 1) (-1)) 1 0 (20 + 5 * (ix (m 1 0 1)) + 2) 0) 1 0 1 (((up3 (up3 (up3 (x_X7_laysAside m) 1 0 (20 + 5 * (ix (m 1 0 1)) + 0) p1) 1 0 (20 + 5 * (ix (m 1 0 1)) + 1) (-1)) 1 0 (20 + 5 * (ix (m 1 0 1)) + 2) 0) 1 0 1) + 1))).1) 0)).2))) else ((x_X7_throwing m 1).1, (x_X7_throwing m 1).2))
theorem xe_X7_delaysWithTug : ∃ f, f = y_X7_delaysWithTug := ⟨y_X7_delaysWithTug, rfl⟩
noncomputable def x_X7_delaysWithTug := Classical.choose xe_X7_delaysWithTug
theorem x_X7_delaysWithTug_eq : x_X7_delaysWithTug = y_X7_delaysWithTug := Classical.choose_spec xe_X7_delaysWithTug
