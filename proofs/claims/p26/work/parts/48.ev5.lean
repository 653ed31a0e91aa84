/-! what keeps the model's indexes in their rows -/
def mok (k : Nat) : Prop := k ≠ 0 ∧ k ≠ 1 ∧ k ≠ 2 ∧ k ≠ 7 ∧ k ≠ 21 ∧ k ≠ 26 ∧ k ≠ 31
def MW (B : Nat) (m0 m : Mem) : Prop := MK m ∧ B = B ∧ ∀ k, k < 3 → m 1 0 k = m0 1 0 k
theorem up3_k {m : Mem} {k k' : Nat} {v : Int32} (h : k' ≠ k) : up3 m 1 0 k v 1 0 k' = m 1 0 k' := up3_ne (fun q => h q.2.2)
theorem MW.mono {B B' : Nat} {m0 m : Mem} (h : MW B m0 m) (_ : B ≤ B') : MW B' m0 m := ⟨h.1, rfl, h.2.2⟩
theorem MW.up {B : Nat} {m0 m : Mem} {k : Nat} {v : Int32} (h : MW B m0 m) (hk : mok k) : MW B m0 (up3 m 1 0 k v) := by
  obtain ⟨k0, k1, k2, k3, k4, k5, k6⟩ := hk
  refine ⟨⟨?_, ?_, ?_, ?_, ?_, ?_, ?_⟩, rfl, fun q hq => ?_⟩
  · rw [up3_k (Ne.symm k0)]; exact h.1.1
  · rw [up3_k (Ne.symm k1)]; exact h.1.2.1
  · rw [up3_k (Ne.symm k2)]; exact h.1.2.2.1
  · rw [up3_k (Ne.symm k3)]; exact h.1.2.2.2.1
  · rw [up3_k (Ne.symm k4)]; exact h.1.2.2.2.2.1
  · rw [up3_k (Ne.symm k5)]; exact h.1.2.2.2.2.2.1
  · rw [up3_k (Ne.symm k6)]; exact h.1.2.2.2.2.2.2
  · rw [up3_k (by omega)]; exact h.2.2 q hq
theorem MW.upo {B : Nat} {m0 m : Mem} {f i k : Nat} {v : Int32} (h : MW B m0 m) (hf : f ≠ 1) : MW B m0 (up3 m f i k v) := by
  have e : ∀ q, up3 m f i k v 1 0 q = m 1 0 q := fun q => up3_ne (fun z => hf z.1.symm)
  refine ⟨?_, rfl, fun q hq => (e q).trans (h.2.2 q hq)⟩
  unfold MK
  simp only [e]
  exact h.1
theorem MW.upE {B : Nat} {m0 m : Mem} {v : Int32} (h : MW B m0 m) (hv : VN 30 v) : MW B m0 (up3 m 1 0 7 v) := by
  refine ⟨⟨?_, ?_, ?_, ?_, ?_, ?_, ?_⟩, rfl, fun q hq => ?_⟩
  · rw [up3_k (by decide)]; exact h.1.1
  · rw [up3_k (by decide)]; exact h.1.2.1
  · rw [up3_k (by decide)]; exact h.1.2.2.1
  · rw [up3_self]; exact hv
  · rw [up3_k (by decide)]; exact h.1.2.2.2.2.1
  · rw [up3_k (by decide)]; exact h.1.2.2.2.2.2.1
  · rw [up3_k (by decide)]; exact h.1.2.2.2.2.2.2
  · rw [up3_k (by omega)]; exact h.2.2 q hq
theorem up3_vx {m : Mem} {t k : Nat} {v : Int32} (hv : VX 12 v) (h : VX 12 (m 1 0 t)) : VX 12 (up3 m 1 0 k v 1 0 t) := by
  by_cases e : t = k
  · subst e
    rw [up3_self]
    exact hv
  · rw [up3_k e]
    exact h
theorem MW.upT {B : Nat} {m0 m : Mem} {t : Nat} {v : Int32} (h : MW B m0 m) (ht : t < 3) (hv : VX 12 v) : MW B m0 (up3 m 1 0 (20 + 5 * t + 1) v) := by
  refine ⟨⟨?_, ?_, ?_, ?_, ?_, ?_, ?_⟩, rfl, fun q hq => ?_⟩
  · rw [up3_k (by omega)]; exact h.1.1
  · rw [up3_k (by omega)]; exact h.1.2.1
  · rw [up3_k (by omega)]; exact h.1.2.2.1
  · rw [up3_k (by omega)]; exact h.1.2.2.2.1
  · exact up3_vx hv h.1.2.2.2.2.1
  · exact up3_vx hv h.1.2.2.2.2.2.1
  · exact up3_vx hv h.1.2.2.2.2.2.2
  · rw [up3_k (by omega)]; exact h.2.2 q hq
theorem MW.cN {B B' : Nat} {m0 m m' : Mem} (h' : MW B' m0 m') (h : MW B m0 m) {k : Nat} (hk : k < 3) : m' 1 0 k = nI (ix (m 1 0 k)) := by
  rw [h'.2.2 k hk, ← h.2.2 k hk]
  match k, hk with
  | 0, _ => exact h.1.ns.1
  | 1, _ => exact h.1.nt.1
  | 2, _ => exact h.1.na.1
theorem MW.same {B B' : Nat} {m0 m m' : Mem} (h' : MW B' m0 m') (h : MW B m0 m) {k : Nat} (hk : k < 3) : m' 1 0 k = m 1 0 k := by rw [h'.2.2 k hk, h.2.2 k hk]
theorem vn_e0 {x : Int32} (h : VN 30 x) : VN 30 (x + 0) := by
  rw [show x + 0 = x by simp]
  exact h
theorem vn_e1 {x : Int32} (h : VN 30 x) (g : x < 30) : VN 30 (x + 1) := by
  have b := h.2
  have l : ix x < 30 := by
    have g2 : nI (ix x) < nI 30 := by rw [← h.1]; exact g
    exact (nI_ltI (by omega) (by decide)).mp g2
  have e : x + 1 = nI (ix x + 1) := by rw [← nI_1, ← h.1]
  unfold VN
  rw [e, ix_nI (by omega)]
  exact ⟨rfl, by omega⟩
noncomputable def bd_X7_tugFor_4 (m : Mem) (q : Nat) (j : Nat) (c2 : Int32) : Int32 := (if (m 1 0 (20 + 5 * j + 0)) < (x_X7_of m q 1) then c2 else (if (m 1 0 (20 + 5 * j + 1)) = (-1) then (if c2 = (-1) then (nI j) else (if (m 1 0 (20 + 5 * j + 0)) < (m 1 0 (20 + 5 * (ix c2) + 0)) then (nI j) else c2)) else c2))
noncomputable def ly_X7_tugFor_4 (m : Mem) (q : Nat) (N : Nat) (c2 : Int32) : Int32 := itr (fun jz s => bd_X7_tugFor_4 m q jz s) N 0 c2
theorem le_X7_tugFor_4 : ∃ f, f = ly_X7_tugFor_4 := ⟨ly_X7_tugFor_4, rfl⟩
noncomputable def lf_X7_tugFor_4 := Classical.choose le_X7_tugFor_4
theorem lf_X7_tugFor_4_eq : lf_X7_tugFor_4 = ly_X7_tugFor_4 := Classical.choose_spec le_X7_tugFor_4
theorem fb_X7_tugFor_4 {m : Mem} {q : Nat} (hF : MK m) (hq : q < 12) {j : Nat} {c2 : Int32} (hjN : j < 3) (hb : VX 3 c2) : (VX 3 (bd_X7_tugFor_4 m q j c2)) := by
  unfold bd_X7_tugFor_4
  by_cases h34 : (m 1 0 (20 + 5 * j + 0)) < (x_X7_of m q 1)
  · rw [if_pos h34]
    exact (by first | assumption | exact VX_nI (by omega) (by decide))
  · rw [if_neg h34]
    by_cases h48 : (m 1 0 (20 + 5 * j + 1)) = (-1)
    · rw [if_pos h48]
      by_cases h65 : c2 = (-1)
      · rw [if_pos h65]
        exact (by first | assumption | exact VX_nI (by omega) (by decide))
      · rw [if_neg h65]
        have b68 : ix c2 < 3 := VX.lt hb h65
        by_cases h80 : (m 1 0 (20 + 5 * j + 0)) < (m 1 0 (20 + 5 * (ix c2) + 0))
        · rw [if_pos h80]
          exact (by first | assumption | exact VX_nI (by omega) (by decide))
        · rw [if_neg h80]
          exact (by first | assumption | exact VX_nI (by omega) (by decide))
    · rw [if_neg h48]
      exact (by first | assumption | exact VX_nI (by omega) (by decide))
theorem fl_X7_tugFor_4 {m : Mem} {q : Nat} {N : Nat} (hF : MK m) (hq : q < 12) {c2 : Int32} (hNc : N ≤ 3) (hb : VX 3 c2) : (VX 3 (lf_X7_tugFor_4 m q N c2)) := by
  rw [lf_X7_tugFor_4_eq]
  unfold ly_X7_tugFor_4
  exact itr_inv (n := N) (s := c2) (P := fun jz s => (VX 3 s)) (fun jz s => bd_X7_tugFor_4 m q jz s) (fun jz s hj hs => fb_X7_tugFor_4 hF hq (j := jz) (c2 := s) (by omega) hs) hb
noncomputable def y_X7_tugFor (m : Mem) (q : Nat) : Int32 := (lf_X7_tugFor_4 m q (ix (m 1 0 1)) (-1))
theorem xe_X7_tugFor : ∃ f, f = y_X7_tugFor := ⟨y_X7_tugFor, rfl⟩
noncomputable def x_X7_tugFor := Classical.choose xe_X7_tugFor
theorem x_X7_tugFor_eq : x_X7_tugFor = y_X7_tugFor := Classical.choose_spec xe_X7_tugFor
theorem vx_X7_tugFor {m : Mem} {q : Nat} (hF : MK m) (hq : q < 12) : VX 3 (x_X7_tugFor m q) := by
  rw [x_X7_tugFor_eq]
  exact fl_X7_tugFor_4 hF hq hF.nt.2 (Or.inl rfl)
noncomputable def y_X7_isPushedFrom (m : Mem) (p1 : Int32) : Bool := (if (x_X7_isStand m p1) = true then (if (x_X7_planeOf m p1) = (-1) then false else (if (x_X7_of m (ix (x_X7_planeOf m p1)) 5) = 4 then true else false)) else false)
theorem xe_X7_isPushedFrom : ∃ f, f = y_X7_isPushedFrom := ⟨y_X7_isPushedFrom, rfl⟩
noncomputable def x_X7_isPushedFrom := Classical.choose xe_X7_isPushedFrom
theorem x_X7_isPushedFrom_eq : x_X7_isPushedFrom = y_X7_isPushedFrom := Classical.choose_spec xe_X7_isPushedFrom
noncomputable def y_X7_whyNot (m : Mem) (q : Nat) : Int32 := (if (x_X7_of m q 5) = 0 then 1 else (if (x_X7_of m q 5) = 3 then 2 else (if (x_X7_of m q 5) = 4 then 3 else (if (x_X7_of m q 5) = 5 then 3 else (if (m 1 0 3) < (x_X7_of m q 3) then 4 else (if (x_X7_isCurfew m) = true then 5 else (if (x_X7_of m q 5) = 1 then (if (x_X7_isPushedFrom m ((x_X7_of m q 6) - 1)) = true then 6 else (if (x_X7_isPushedFrom m ((x_X7_of m q 6) + 1)) = true then 6 else (if (x_X7_tugFor m q) = (-1) then 7 else 0))) else (if (x_X7_tugFor m q) = (-1) then 7 else 0))))))))
theorem xe_X7_whyNot : ∃ f, f = y_X7_whyNot := ⟨y_X7_whyNot, rfl⟩
noncomputable def x_X7_whyNot := Classical.choose xe_X7_whyNot
theorem x_X7_whyNot_eq : x_X7_whyNot = y_X7_whyNot := Classical.choose_spec xe_X7_whyNot
noncomputable def bd_X7_delays_4 (m : Mem) (w1 : Int32) (j : Nat) (c2 : Int32) : Int32 := (if (x_X7_of m j 7) = (-1) then (if w1 = 0 then (c2 + 0) else (if c2 < 0 then 0 else c2)) else (if w1 = 0 then (c2 + (x_X7_of m j 7)) else (if c2 < (x_X7_of m j 7) then (x_X7_of m j 7) else c2)))
noncomputable def ly_X7_delays_4 (m : Mem) (w1 : Int32) (N : Nat) (c2 : Int32) : Int32 := itr (fun jz s => bd_X7_delays_4 m w1 jz s) N 0 c2
theorem le_X7_delays_4 : ∃ f, f = ly_X7_delays_4 := ⟨ly_X7_delays_4, rfl⟩
noncomputable def lf_X7_delays_4 := Classical.choose le_X7_delays_4
theorem lf_X7_delays_4_eq : lf_X7_delays_4 = ly_X7_delays_4 := Classical.choose_spec le_X7_delays_4
noncomputable def y_X7_delays (m : Mem) (p1 : Int32) : Int32 := (lf_X7_delays_4 m p1 (ix (m 1 0 2)) 0)
theorem xe_X7_delays : ∃ f, f = y_X7_delays := ⟨y_X7_delays, rfl⟩
noncomputable def x_X7_delays := Classical.choose xe_X7_delays
theorem x_X7_delays_eq : x_X7_delays = y_X7_delays := Classical.choose_spec xe_X7_delays
noncomputable def y_X7_standOf (m : Mem) (q : Nat) (p2 : Int32) : Int32 := (if p2 = 0 then (m 1 0 (8 + 2 * q + 0)) else (if p2 = 1 then (x_X7_planeOf m (nI q)) else (if p2 = 2 then (if (x_X7_isPushedFrom m (nI q)) = true then 1 else 0) else (m 1 0 (8 + 2 * q + 1)))))
theorem xe_X7_standOf : ∃ f, f = y_X7_standOf := ⟨y_X7_standOf, rfl⟩
noncomputable def x_X7_standOf := Classical.choose xe_X7_standOf
theorem x_X7_standOf_eq : x_X7_standOf = y_X7_standOf := Classical.choose_spec xe_X7_standOf
noncomputable def y_X7_valueOf (m : Mem) (w : Nat) : Int32 := (if (nI w) = 6 then (x_X7_inState m ((nI w) - 6)) else (if (nI w) = 7 then (x_X7_inState m ((nI w) - 6)) else (if (nI w) = 8 then (x_X7_inState m ((nI w) - 6)) else (if (nI w) = 9 then (x_X7_inState m ((nI w) - 6)) else (if (nI w) = 10 then (x_X7_inState m ((nI w) - 6)) else (if (nI w) = 11 then (x_X7_inState m ((nI w) - 6)) else (if (nI w) = 12 then (if (nI w) = 13 then (x_X7_delays m 1) else (x_X7_delays m 0)) else (if (nI w) = 13 then (if (nI w) = 13 then (x_X7_delays m 1) else (x_X7_delays m 0)) else (if (nI w) = 14 then (m 1 0 6) else (if (nI w) = 15 then (m 1 0 7) else (m 1 0 w)))))))))))
theorem xe_X7_valueOf : ∃ f, f = y_X7_valueOf := ⟨y_X7_valueOf, rfl⟩
noncomputable def x_X7_valueOf := Classical.choose xe_X7_valueOf
theorem x_X7_valueOf_eq : x_X7_valueOf = y_X7_valueOf := Classical.choose_spec xe_X7_valueOf
noncomputable def bd_X7_writes_3 (w1 : Int32) (w2 : Int32) (j : Nat) (m : Mem) : Mem := (up3 m 1 0 (155 + (89 - j)) (m 1 0 ((155 + (89 - j)) - 3)))
noncomputable def ly_X7_writes_3 (w1 : Int32) (w2 : Int32) (N : Nat) (m : Mem) : Mem := itr (fun jz s => bd_X7_writes_3 w1 w2 jz s) N 0 m
theorem le_X7_writes_3 : ∃ f, f = ly_X7_writes_3 := ⟨ly_X7_writes_3, rfl⟩
noncomputable def lf_X7_writes_3 := Classical.choose le_X7_writes_3
theorem lf_X7_writes_3_eq : lf_X7_writes_3 = ly_X7_writes_3 := Classical.choose_spec le_X7_writes_3
theorem fb_X7_writes_3 {B : Nat} {m0 : Mem} {w1 : Int32} {w2 : Int32} (hB : B + 0 < 2147483648) {j : Nat} {m : Mem} (hjN : j < 87) (hW : MW (B + 0 * j) m0 m) : (MW (B + 0 * (j + 1)) m0 (bd_X7_writes_3 w1 w2 j m)) := by
  unfold bd_X7_writes_3
  exact (MW.mono (MW.up hW (by unfold mok; omega)) (by omega))
theorem fl_X7_writes_3 {B : Nat} {m0 : Mem} {w1 : Int32} {w2 : Int32} (hB : B + 0 < 2147483648) {m : Mem} {N : Nat} (hNl : N = 87) (hW : MW (B + 0 * 0) m0 m) : (MW (B + 0 * N) m0 (lf_X7_writes_3 w1 w2 N m)) := by
  rw [lf_X7_writes_3_eq]
  unfold ly_X7_writes_3
  exact itr_inv (n := N) (s := m) (P := fun jz s => (MW (B + 0 * jz) m0 s)) (fun jz s => bd_X7_writes_3 w1 w2 jz s) (fun jz s hj hs => fb_X7_writes_3 (B := B) (m0 := m0) hB (j := jz) (m := s) (by omega) hs) hW
noncomputable def y_X7_writes (m : Mem) (p1 : Int32) (p2 : Int32) : Mem := (if ((up3 (up3 (up3 (lf_X7_writes_3 p1 p2 87 m) 1 0 155 p1) 1 0 156 ((up3 (lf_X7_writes_3 p1 p2 87 m) 1 0 155 p1) 1 0 3)) 1 0 157 p2) 1 0 7) < 30 then (up3 (up3 (up3 (up3 (lf_X7_writes_3 p1 p2 87 m) 1 0 155 p1) 1 0 156 ((up3 (lf_X7_writes_3 p1 p2 87 m) 1 0 155 p1) 1 0 3)) 1 0 157 p2) 1 0 7 (((up3 (up3 (up3 (lf_X7_writes_3 p1 p2 87 m) 1 0 155 p1) 1 0 156 ((up3 (lf_X7_writes_3 p1 p2 87 m) 1 0 155 p1) 1 0 3)) 1 0 157 p2) 1 0 7) + 1)) else (up3 (up3 (up3 (up3 (lf_X7_writes_3 p1 p2 87 m) 1 0 155 p1) 1 0 156 ((up3 (lf_X7_writes_3 p1 p2 87 m) 1 0 155 p1) 1 0 3)) 1 0 157 p2) 1 0 7 (((up3 (up3 (up3 (lf_X7_writes_3 p1 p2 87 m) 1 0 155 p1) 1 0 156 ((up3 (lf_X7_writes_3 p1 p2 87 m) 1 0 155 p1) 1 0 3)) 1 0 157 p2) 1 0 7) + 0)))
theorem xe_X7_writes : ∃ f, f = y_X7_writes := ⟨y_X7_writes, rfl⟩
noncomputable def x_X7_writes := Classical.choose xe_X7_writes
theorem x_X7_writes_eq : x_X7_writes = y_X7_writes := Classical.choose_spec xe_X7_writes
theorem fw_X7_writes {m : Mem} {p1 : Int32} {p2 : Int32} {B : Nat} {m0 : Mem} (hW : MW B m0 m) (hB : B + 0 < 2147483648) : MW (B + 0) m0 (x_X7_writes m p1 p2) := by
  rw [x_X7_writes_eq]
  unfold y_X7_writes
  by_cases h85 : ((up3 (up3 (up3 (lf_X7_writes_3 p1 p2 87 m) 1 0 155 p1) 1 0 156 ((up3 (lf_X7_writes_3 p1 p2 87 m) 1 0 155 p1) 1 0 3)) 1 0 157 p2) 1 0 7) < 30
  · rw [if_pos h85]
    exact MW.mono (MW.upE (MW.up (MW.up (MW.up (MW.mono (fl_X7_writes_3 (m := m) (w1 := p1) (w2 := p2) (B := B) (m0 := m0) (by omega) (N := 87) rfl (MW.mono hW (by omega))) (B' := B + 0) (by omega)) (by unfold mok; omega)) (by unfold mok; omega)) (by unfold mok; omega)) (by first | exact vn_e1 (MW.up (MW.up (MW.up (MW.mono (fl_X7_writes_3 (m := m) (w1 := p1) (w2 := p2) (B := B) (m0 := m0) (by omega) (N := 87) rfl (MW.mono hW (by omega))) (B' := B + 0) (by omega)) (by unfold mok; omega)) (by unfold mok; omega)) (by unfold mok; omega)).1.ev h85 | exact vn_e0 (MW.up (MW.up (MW.up (MW.mono (fl_X7_writes_3 (m := m) (w1 := p1) (w2 := p2) (B := B) (m0 := m0) (by omega) (N := 87) rfl (MW.mono hW (by omega))) (B' := B + 0) (by omega)) (by unfold mok; omega)) (by unfold mok; omega)) (by unfold mok; omega)).1.ev)) (by omega)
  · rw [if_neg h85]
    exact MW.mono (MW.upE (MW.up (MW.up (MW.up (MW.mono (fl_X7_writes_3 (m := m) (w1 := p1) (w2 := p2) (B := B) (m0 := m0) (by omega) (N := 87) rfl (MW.mono hW (by omega))) (B' := B + 0) (by omega)) (by unfold mok; omega)) (by unfold mok; omega)) (by unfold mok; omega)) (by first | exact vn_e1 (MW.up (MW.up (MW.up (MW.mono (fl_X7_writes_3 (m := m) (w1 := p1) (w2 := p2) (B := B) (m0 := m0) (by omega) (N := 87) rfl (MW.mono hW (by omega))) (B' := B + 0) (by omega)) (by unfold mok; omega)) (by unfold mok; omega)) (by unfold mok; omega)).1.ev h85 | exact vn_e0 (MW.up (MW.up (MW.up (MW.mono (fl_X7_writes_3 (m := m) (w1 := p1) (w2 := p2) (B := B) (m0 := m0) (by omega) (N := 87) rfl (MW.mono hW (by omega))) (B' := B + 0) (by omega)) (by unfold mok; omega)) (by unfold mok; omega)) (by unfold mok; omega)).1.ev)) (by omega)
noncomputable def y_X7_buses (m : Mem) (q : Nat) : Mem := (up3 (up3 m 1 0 (35 + 10 * q + 9) ((m 1 0 (35 + 10 * q + 9)) + (((x_X7_of m q 4) + 49) / 50))) 1 0 6 (((up3 m 1 0 (35 + 10 * q + 9) ((m 1 0 (35 + 10 * q + 9)) + (((x_X7_of m q 4) + 49) / 50))) 1 0 6) + (((x_X7_of m q 4) + 49) / 50)))
theorem xe_X7_buses : ∃ f, f = y_X7_buses := ⟨y_X7_buses, rfl⟩
noncomputable def x_X7_buses := Classical.choose xe_X7_buses
theorem x_X7_buses_eq : x_X7_buses = y_X7_buses := Classical.choose_spec xe_X7_buses
theorem fw_X7_buses {m : Mem} {q : Nat} {v_q : Int32} {B : Nat} {m0 : Mem} (e_q : v_q = nI q) (hW : MW B m0 m) (hB : B + 0 < 2147483648) (hq : q < 12) : MW (B + 0) m0 (x_X7_buses m q) := by
  subst e_q
  rw [x_X7_buses_eq]
  unfold y_X7_buses
  exact MW.mono (MW.up (MW.up hW (by unfold mok; omega)) (by unfold mok; omega)) (by omega)
noncomputable def y_X7_takes (m : Mem) (t : Nat) (p2 : Int32) (p3 : Int32) (w : Nat) : Mem := (up3 (up3 (up3 m 1 0 (20 + 5 * t + 1) p2) 1 0 (20 + 5 * t + 2) p3) 1 0 (20 + 5 * t + w) (((up3 (up3 m 1 0 (20 + 5 * t + 1) p2) 1 0 (20 + 5 * t + 2) p3) 1 0 (20 + 5 * t + w)) + 1))
theorem xe_X7_takes : ∃ f, f = y_X7_takes := ⟨y_X7_takes, rfl⟩
noncomputable def x_X7_takes := Classical.choose xe_X7_takes
theorem x_X7_takes_eq : x_X7_takes = y_X7_takes := Classical.choose_spec xe_X7_takes
theorem fw_X7_takes {m : Mem} {t : Nat} {v_t : Int32} {p2 : Int32} {p3 : Int32} {w : Nat} {v_w : Int32} {B : Nat} {m0 : Mem} (e_t : v_t = nI t) (e_w : v_w = nI w) (hW : MW B m0 m) (hB : B + 0 < 2147483648) (ht : t < 3) (hw : 3 ≤ w ∧ w < 5) (hv : VX 12 p2) : MW (B + 0) m0 (x_X7_takes m t p2 p3 w) := by
  subst e_t
  subst e_w
  rw [x_X7_takes_eq]
  unfold y_X7_takes
  exact MW.mono (MW.up (MW.up (MW.upT hW (by omega) hv) (by unfold mok; omega)) (by unfold mok; omega)) (by omega)
noncomputable def bd_X7_tugs_2 (j : Nat) (m : Mem) : Mem := (if (m 1 0 (20 + 5 * j + 1)) = (-1) then m else (if ((up3 m 1 0 (20 + 5 * j + 2) ((m 1 0 (20 + 5 * j + 2)) - 1)) 1 0 (20 + 5 * j + 2)) = 0 then (if (x_X7_of (up3 (up3 m 1 0 (20 + 5 * j + 2) ((m 1 0 (20 + 5 * j + 2)) - 1)) 1 0 (20 + 5 * j + 1) (-1)) (ix (m 1 0 (20 + 5 * j + 1))) 5) = 3 then (x_X7_writes (up3 (up3 (up3 (up3 m 1 0 (20 + 5 * j + 2) ((m 1 0 (20 + 5 * j + 2)) - 1)) 1 0 (20 + 5 * j + 1) (-1)) 1 0 (35 + 10 * (ix (m 1 0 (20 + 5 * j + 1))) + 5) 1) 1 0 (35 + 10 * (ix (m 1 0 (20 + 5 * j + 1))) + 6) (x_X7_of (up3 (up3 (up3 m 1 0 (20 + 5 * j + 2) ((m 1 0 (20 + 5 * j + 2)) - 1)) 1 0 (20 + 5 * j + 1) (-1)) 1 0 (35 + 10 * (ix (m 1 0 (20 + 5 * j + 1))) + 5) 1) (ix (m 1 0 (20 + 5 * j + 1))) 6)) 6 (m 1 0 (20 + 5 * j + 1))) else (x_X7_writes (up3 (up3 (up3 (up3 m 1 0 (20 + 5 * j + 2) ((m 1 0 (20 + 5 * j + 2)) - 1)) 1 0 (20 + 5 * j + 1) (-1)) 1 0 (35 + 10 * (ix (m 1 0 (20 + 5 * j + 1))) + 5) 5) 1 0 (35 + 10 * (ix (m 1 0 (20 + 5 * j + 1))) + 6) (-1)) 4 (m 1 0 (20 + 5 * j + 1)))) else (up3 m 1 0 (20 + 5 * j + 2) ((m 1 0 (20 + 5 * j + 2)) - 1))))
noncomputable def ly_X7_tugs_2 (N : Nat) (m : Mem) : Mem := itr (fun jz s => bd_X7_tugs_2 jz s) N 0 m
theorem le_X7_tugs_2 : ∃ f, f = ly_X7_tugs_2 := ⟨ly_X7_tugs_2, rfl⟩
noncomputable def lf_X7_tugs_2 := Classical.choose le_X7_tugs_2
theorem lf_X7_tugs_2_eq : lf_X7_tugs_2 = ly_X7_tugs_2 := Classical.choose_spec le_X7_tugs_2
theorem fb_X7_tugs_2 {B : Nat} {m0 : Mem} (hB : B + 0 < 2147483648) {j : Nat} {m : Mem} (hjN : j < 3) (hW : MW (B + 0 * j) m0 m) : (MW (B + 0 * (j + 1)) m0 (bd_X7_tugs_2 j m)) := by
  unfold bd_X7_tugs_2
  by_cases h25 : (m 1 0 (20 + 5 * j + 1)) = (-1)
  · rw [if_pos h25]
    exact (MW.mono hW (by omega))
  · rw [if_neg h25]
    have b28 : ix (m 1 0 (20 + 5 * j + 1)) < 12 := VX.lt (hW.1.tu (by omega)) h25
    by_cases h52 : ((up3 m 1 0 (20 + 5 * j + 2) ((m 1 0 (20 + 5 * j + 2)) - 1)) 1 0 (20 + 5 * j + 2)) = 0
    · rw [if_pos h52]
      by_cases h73 : (x_X7_of (up3 (up3 m 1 0 (20 + 5 * j + 2) ((m 1 0 (20 + 5 * j + 2)) - 1)) 1 0 (20 + 5 * j + 1) (-1)) (ix (m 1 0 (20 + 5 * j + 1))) 5) = 3
      · rw [if_pos h73]
        exact (MW.mono (fw_X7_writes (MW.up (MW.up (MW.upT (MW.up hW (by unfold mok; omega)) (by omega) (Or.inl rfl)) (by unfold mok; omega)) (by unfold mok; omega)) (by omega)) (by omega))
      · rw [if_neg h73]
        exact (MW.mono (fw_X7_writes (MW.up (MW.up (MW.upT (MW.up hW (by unfold mok; omega)) (by omega) (Or.inl rfl)) (by unfold mok; omega)) (by unfold mok; omega)) (by omega)) (by omega))
    · rw [if_neg h52]
      exact (MW.mono (MW.up hW (by unfold mok; omega)) (by omega))
theorem fl_X7_tugs_2 {B : Nat} {m0 : Mem} {N : Nat} (hB : B + 0 < 2147483648) {m : Mem} (hNc : N ≤ 3) (hW : MW (B + 0 * 0) m0 m) : (MW (B + 0 * N) m0 (lf_X7_tugs_2 N m)) := by
  rw [lf_X7_tugs_2_eq]
  unfold ly_X7_tugs_2
  exact itr_inv (n := N) (s := m) (P := fun jz s => (MW (B + 0 * jz) m0 s)) (fun jz s => bd_X7_tugs_2 jz s) (fun jz s hj hs => fb_X7_tugs_2 (B := B) (m0 := m0) hB (j := jz) (m := s) (by omega) hs) hW
noncomputable def y_X7_tugs (m : Mem) : Mem := (lf_X7_tugs_2 (ix (m 1 0 1)) m)
theorem xe_X7_tugs : ∃ f, f = y_X7_tugs := ⟨y_X7_tugs, rfl⟩
noncomputable def x_X7_tugs := Classical.choose xe_X7_tugs
theorem x_X7_tugs_eq : x_X7_tugs = y_X7_tugs := Classical.choose_spec xe_X7_tugs
theorem fw_X7_tugs {m : Mem} {B : Nat} {m0 : Mem} (hW : MW B m0 m) (hB : B + 0 < 2147483648) : MW (B + 0) m0 (x_X7_tugs m) := by
  rw [x_X7_tugs_eq]
  unfold y_X7_tugs
  exact MW.mono (MW.mono (fl_X7_tugs_2 (m := m) (N := (ix (m 1 0 1))) (B := B) (m0 := m0) (by omega) hW.1.nt.2 (MW.mono hW (by omega))) (B' := B + 0) (by have hc9 := hW.1.nt.2; omega)) (by omega)
noncomputable def bd_X7_arrivals_2 (j : Nat) (m : Mem) : Mem := (if (x_X7_of m j 5) = 0 then (if (m 1 0 3) < (x_X7_of m j 2) then m else (if (x_X7_standFor m j) = (-1) then (if (x_X7_standFor m j) = (-1) then (if (x_X7_standFor m j) = (-1) then (x_X7_writes (x_X7_buses (up3 (up3 m 1 0 (35 + 10 * j + 5) 2) 1 0 (35 + 10 * j + 6) (x_X7_standFor m j)) j) 2 (nI j)) else (x_X7_writes (x_X7_buses (up3 (up3 m 1 0 (35 + 10 * j + 5) 2) 1 0 (35 + 10 * j + 6) (x_X7_standFor m j)) j) 1 (nI j))) else (if (x_X7_standFor m j) = (-1) then (x_X7_writes (up3 (up3 m 1 0 (35 + 10 * j + 5) 2) 1 0 (35 + 10 * j + 6) (x_X7_standFor m j)) 2 (nI j)) else (x_X7_writes (up3 (up3 m 1 0 (35 + 10 * j + 5) 2) 1 0 (35 + 10 * j + 6) (x_X7_standFor m j)) 1 (nI j)))) else (if (x_X7_standFor m j) = (-1) then (if (x_X7_standFor m j) = (-1) then (x_X7_writes (x_X7_buses (up3 (up3 m 1 0 (35 + 10 * j + 5) 1) 1 0 (35 + 10 * j + 6) (x_X7_standFor m j)) j) 2 (nI j)) else (x_X7_writes (x_X7_buses (up3 (up3 m 1 0 (35 + 10 * j + 5) 1) 1 0 (35 + 10 * j + 6) (x_X7_standFor m j)) j) 1 (nI j))) else (if (x_X7_standFor m j) = (-1) then (x_X7_writes (up3 (up3 m 1 0 (35 + 10 * j + 5) 1) 1 0 (35 + 10 * j + 6) (x_X7_standFor m j)) 2 (nI j)) else (x_X7_writes (up3 (up3 m 1 0 (35 + 10 * j + 5) 1) 1 0 (35 + 10 * j + 6) (x_X7_standFor m j)) 1 (nI j)))))) else m)
noncomputable def ly_X7_arrivals_2 (N : Nat) (m : Mem) : Mem := itr (fun jz s => bd_X7_arrivals_2 jz s) N 0 m
theorem le_X7_arrivals_2 : ∃ f, f = ly_X7_arrivals_2 := ⟨ly_X7_arrivals_2, rfl⟩
noncomputable def lf_X7_arrivals_2 := Classical.choose le_X7_arrivals_2
theorem lf_X7_arrivals_2_eq : lf_X7_arrivals_2 = ly_X7_arrivals_2 := Classical.choose_spec le_X7_arrivals_2
theorem fb_X7_arrivals_2 {B : Nat} {m0 : Mem} (hB : B + 0 < 2147483648) {j : Nat} {m : Mem} (hjN : j < 12) (hW : MW (B + 0 * j) m0 m) : (MW (B + 0 * (j + 1)) m0 (bd_X7_arrivals_2 j m)) := by
  unfold bd_X7_arrivals_2
  by_cases h18 : (x_X7_of m j 5) = 0
  · rw [if_pos h18]
    by_cases h33 : (m 1 0 3) < (x_X7_of m j 2)
    · rw [if_pos h33]
      exact (MW.mono hW (by omega))
    · rw [if_neg h33]
      by_cases h53 : (x_X7_standFor m j) = (-1)
      · rw [if_pos h53]
        by_cases h76 : (x_X7_standFor m j) = (-1)
        · rw [if_pos h76]
          by_cases h87 : (x_X7_standFor m j) = (-1)
          · rw [if_pos h87]
            exact (MW.mono (fw_X7_writes (fw_X7_buses (q := j) rfl (MW.up (MW.up hW (by unfold mok; omega)) (by unfold mok; omega)) (by omega) (by omega)) (by omega)) (by omega))
          · rw [if_neg h87]
            exact (MW.mono (fw_X7_writes (fw_X7_buses (q := j) rfl (MW.up (MW.up hW (by unfold mok; omega)) (by unfold mok; omega)) (by omega) (by omega)) (by omega)) (by omega))
        · rw [if_neg h76]
          by_cases h87 : (x_X7_standFor m j) = (-1)
          · rw [if_pos h87]
            exact (MW.mono (fw_X7_writes (MW.up (MW.up hW (by unfold mok; omega)) (by unfold mok; omega)) (by omega)) (by omega))
          · rw [if_neg h87]
            exact (MW.mono (fw_X7_writes (MW.up (MW.up hW (by unfold mok; omega)) (by unfold mok; omega)) (by omega)) (by omega))
      · rw [if_neg h53]
        by_cases h76 : (x_X7_standFor m j) = (-1)
        · rw [if_pos h76]
          by_cases h87 : (x_X7_standFor m j) = (-1)
          · rw [if_pos h87]
            exact (MW.mono (fw_X7_writes (fw_X7_buses (q := j) rfl (MW.up (MW.up hW (by unfold mok; omega)) (by unfold mok; omega)) (by omega) (by omega)) (by omega)) (by omega))
          · rw [if_neg h87]
            exact (MW.mono (fw_X7_writes (fw_X7_buses (q := j) rfl (MW.up (MW.up hW (by unfold mok; omega)) (by unfold mok; omega)) (by omega) (by omega)) (by omega)) (by omega))
        · rw [if_neg h76]
          by_cases h87 : (x_X7_standFor m j) = (-1)
          · rw [if_pos h87]
            exact (MW.mono (fw_X7_writes (MW.up (MW.up hW (by unfold mok; omega)) (by unfold mok; omega)) (by omega)) (by omega))
          · rw [if_neg h87]
            exact (MW.mono (fw_X7_writes (MW.up (MW.up hW (by unfold mok; omega)) (by unfold mok; omega)) (by omega)) (by omega))
  · rw [if_neg h18]
    exact (MW.mono hW (by omega))
theorem fl_X7_arrivals_2 {B : Nat} {m0 : Mem} {N : Nat} (hB : B + 0 < 2147483648) {m : Mem} (hNc : N ≤ 12) (hW : MW (B + 0 * 0) m0 m) : (MW (B + 0 * N) m0 (lf_X7_arrivals_2 N m)) := by
  rw [lf_X7_arrivals_2_eq]
  unfold ly_X7_arrivals_2
  exact itr_inv (n := N) (s := m) (P := fun jz s => (MW (B + 0 * jz) m0 s)) (fun jz s => bd_X7_arrivals_2 jz s) (fun jz s hj hs => fb_X7_arrivals_2 (B := B) (m0 := m0) hB (j := jz) (m := s) (by omega) hs) hW
noncomputable def y_X7_arrivals (m : Mem) : Mem := (lf_X7_arrivals_2 (ix (m 1 0 2)) m)
theorem xe_X7_arrivals : ∃ f, f = y_X7_arrivals := ⟨y_X7_arrivals, rfl⟩
noncomputable def x_X7_arrivals := Classical.choose xe_X7_arrivals
theorem x_X7_arrivals_eq : x_X7_arrivals = y_X7_arrivals := Classical.choose_spec xe_X7_arrivals
theorem fw_X7_arrivals {m : Mem} {B : Nat} {m0 : Mem} (hW : MW B m0 m) (hB : B + 0 < 2147483648) : MW (B + 0) m0 (x_X7_arrivals m) := by
  rw [x_X7_arrivals_eq]
  unfold y_X7_arrivals
  exact MW.mono (MW.mono (fl_X7_arrivals_2 (m := m) (N := (ix (m 1 0 2))) (B := B) (m0 := m0) (by omega) hW.1.na.2 (MW.mono hW (by omega))) (B' := B + 0) (by have hc9 := hW.1.na.2; omega)) (by omega)
noncomputable def bd_X7_towing_2 (j : Nat) (m : Mem) : Mem := (if (x_X7_of m j 5) = 2 then (if ((m 1 0 3) + 30) < (x_X7_of m j 3) then (if (x_X7_standFor m j) = (-1) then m else (if (x_X7_tugFor m j) = (-1) then m else (x_X7_writes (up3 (up3 (x_X7_takes m (ix (x_X7_tugFor m j)) (nI j) 10 4) 1 0 (35 + 10 * j + 5) 3) 1 0 (35 + 10 * j + 6) (x_X7_standFor m j)) 5 (nI j)))) else m) else m)
noncomputable def ly_X7_towing_2 (N : Nat) (m : Mem) : Mem := itr (fun jz s => bd_X7_towing_2 jz s) N 0 m
theorem le_X7_towing_2 : ∃ f, f = ly_X7_towing_2 := ⟨ly_X7_towing_2, rfl⟩
noncomputable def lf_X7_towing_2 := Classical.choose le_X7_towing_2
theorem lf_X7_towing_2_eq : lf_X7_towing_2 = ly_X7_towing_2 := Classical.choose_spec le_X7_towing_2
theorem fb_X7_towing_2 {B : Nat} {m0 : Mem} (hB : B + 0 < 2147483648) {j : Nat} {m : Mem} (hjN : j < 12) (hW : MW (B + 0 * j) m0 m) : (MW (B + 0 * (j + 1)) m0 (bd_X7_towing_2 j m)) := by
  unfold bd_X7_towing_2
  by_cases h19 : (x_X7_of m j 5) = 2
  · rw [if_pos h19]
    by_cases h37 : ((m 1 0 3) + 30) < (x_X7_of m j 3)
    · rw [if_pos h37]
      by_cases h54 : (x_X7_standFor m j) = (-1)
      · rw [if_pos h54]
        exact (MW.mono hW (by omega))
      · rw [if_neg h54]
        by_cases h59 : (x_X7_tugFor m j) = (-1)
        · rw [if_pos h59]
          exact (MW.mono hW (by omega))
        · rw [if_neg h59]
          have b62 : ix (x_X7_tugFor m j) < 3 := VX.lt (vx_X7_tugFor hW.1 (by omega)) h59
          exact (MW.mono (fw_X7_writes (MW.up (MW.up (fw_X7_takes (t := (ix (x_X7_tugFor m j))) (w := 4) (VX.eq (vx_X7_tugFor hW.1 (by omega)) h59) rfl hW (by omega) (by omega) (by omega) (VX_nI (by omega) (by decide))) (by unfold mok; omega)) (by unfold mok; omega)) (by omega)) (by omega))
    · rw [if_neg h37]
      exact (MW.mono hW (by omega))
  · rw [if_neg h19]
    exact (MW.mono hW (by omega))
theorem fl_X7_towing_2 {B : Nat} {m0 : Mem} {N : Nat} (hB : B + 0 < 2147483648) {m : Mem} (hNc : N ≤ 12) (hW : MW (B + 0 * 0) m0 m) : (MW (B + 0 * N) m0 (lf_X7_towing_2 N m)) := by
  rw [lf_X7_towing_2_eq]
  unfold ly_X7_towing_2
  exact itr_inv (n := N) (s := m) (P := fun jz s => (MW (B + 0 * jz) m0 s)) (fun jz s => bd_X7_towing_2 jz s) (fun jz s hj hs => fb_X7_towing_2 (B := B) (m0 := m0) hB (j := jz) (m := s) (by omega) hs) hW
noncomputable def y_X7_towing (m : Mem) : Mem := (lf_X7_towing_2 (ix (m 1 0 2)) m)
theorem xe_X7_towing : ∃ f, f = y_X7_towing := ⟨y_X7_towing, rfl⟩
noncomputable def x_X7_towing := Classical.choose xe_X7_towing
theorem x_X7_towing_eq : x_X7_towing = y_X7_towing := Classical.choose_spec xe_X7_towing
theorem fw_X7_towing {m : Mem} {B : Nat} {m0 : Mem} (hW : MW B m0 m) (hB : B + 0 < 2147483648) : MW (B + 0) m0 (x_X7_towing m) := by
  rw [x_X7_towing_eq]
  unfold y_X7_towing
  exact MW.mono (MW.mono (fl_X7_towing_2 (m := m) (N := (ix (m 1 0 2))) (B := B) (m0 := m0) (by omega) hW.1.na.2 (MW.mono hW (by omega))) (B' := B + 0) (by have hc9 := hW.1.na.2; omega)) (by omega)
