theorem mw_addc {B B' : Nat} {m0 m m' : Mem} (hW : MW B m0 m) (hc : ix (m 1 0 2) < 12) (h : MW B' m0 m') : MW B' (up3 m0 1 0 2 (m0 1 0 2 + 1)) (up3 m' 1 0 2 (m' 1 0 2 + 1)) := by
  have e : m' 1 0 2 = m0 1 0 2 := h.2.2 2 (by decide)
  have e2 : m 1 0 2 = m0 1 0 2 := hW.2.2 2 (by decide)
  rw [e2] at hc
  have hv : VN 12 (m0 1 0 2 + 1) := by
    have q := hW.1.na.1
    rw [e2] at q
    have e3 : m0 1 0 2 + 1 = nI (ix (m0 1 0 2) + 1) := by rw [← nI_1, ← q]
    unfold VN
    rw [e3, ix_nI (by omega)]
    exact ⟨rfl, by omega⟩
  refine ⟨⟨?_, ?_, ?_, ?_, ?_, ?_, ?_⟩, rfl, fun q hq => ?_⟩
  · rw [up3_k (by decide)]; exact h.1.1
  · rw [up3_k (by decide)]; exact h.1.2.1
  · rw [up3_self, e]; exact hv
  · rw [up3_k (by decide)]; exact h.1.2.2.2.1
  · rw [up3_k (by decide)]; exact h.1.2.2.2.2.1
  · rw [up3_k (by decide)]; exact h.1.2.2.2.2.2.1
  · rw [up3_k (by decide)]; exact h.1.2.2.2.2.2.2
  · by_cases g : q = 2
    · subst g
      rw [up3_self, up3_self, e]
    · rw [up3_k g, up3_k g]
      exact h.2.2 q hq
noncomputable def y_X7_adds (m : Mem) (p1 : Int32) (p2 : Int32) (p3 : Int32) (p4 : Int32) (p5 : Int32) : Mem := (up3 (up3 (up3 (up3 (up3 (up3 (up3 (up3 (up3 (up3 (up3 m 1 0 (35 + 10 * (ix (m 1 0 2)) + 0) p1) 1 0 (35 + 10 * (ix (m 1 0 2)) + 1) p2) 1 0 (35 + 10 * (ix (m 1 0 2)) + 2) p3) 1 0 (35 + 10 * (ix (m 1 0 2)) + 3) p4) 1 0 (35 + 10 * (ix (m 1 0 2)) + 4) p5) 1 0 (35 + 10 * (ix (m 1 0 2)) + 5) 0) 1 0 (35 + 10 * (ix (m 1 0 2)) + 6) (-1)) 1 0 (35 + 10 * (ix (m 1 0 2)) + 7) (-1)) 1 0 (35 + 10 * (ix (m 1 0 2)) + 8) 0) 1 0 (35 + 10 * (ix (m 1 0 2)) + 9) 0) 1 0 2 (((up3 (up3 (up3 (up3 (up3 (up3 (up3 (up3 (up3 (up3 m 1 0 (35 + 10 * (ix (m 1 0 2)) + 0) p1) 1 0 (35 + 10 * (ix (m 1 0 2)) + 1) p2) 1 0 (35 + 10 * (ix (m 1 0 2)) + 2) p3) 1 0 (35 + 10 * (ix (m 1 0 2)) + 3) p4) 1 0 (35 + 10 * (ix (m 1 0 2)) + 4) p5) 1 0 (35 + 10 * (ix (m 1 0 2)) + 5) 0) 1 0 (35 + 10 * (ix (m 1 0 2)) + 6) (-1)) 1 0 (35 + 10 * (ix (m 1 0 2)) + 7) (-1)) 1 0 (35 + 10 * (ix (m 1 0 2)) + 8) 0) 1 0 (35 + 10 * (ix (m 1 0 2)) + 9) 0) 1 0 2) + 1))
theorem xe_X7_adds : ∃ f, f = y_X7_adds := ⟨y_X7_adds, rfl⟩
noncomputable def x_X7_adds := Classical.choose xe_X7_adds
theorem x_X7_adds_eq : x_X7_adds = y_X7_adds := Classical.choose_spec xe_X7_adds
theorem fw_X7_adds {m : Mem} {p1 : Int32} {p2 : Int32} {p3 : Int32} {p4 : Int32} {p5 : Int32} {B : Nat} {m0 : Mem} (hW : MW B m0 m) (hB : B + 0 < 2147483648) (hc : ix (m 1 0 2) < 12) : MW (B + 0) (up3 m0 1 0 2 (m0 1 0 2 + 1)) (x_X7_adds m p1 p2 p3 p4 p5) := by
  rw [x_X7_adds_eq]
  unfold y_X7_adds
  exact MW.mono (mw_addc hW hc (MW.up (MW.up (MW.up (MW.up (MW.up (MW.up (MW.up (MW.up (MW.up (MW.up hW (by unfold mok; omega)) (by unfold mok; omega)) (by unfold mok; omega)) (by unfold mok; omega)) (by unfold mok; omega)) (by unfold mok; omega)) (by unfold mok; omega)) (by unfold mok; omega)) (by unfold mok; omega)) (by unfold mok; omega))) (by omega)
