/-! the model: its object b, its rows b + 1 to b + 6 -/
def cM (b : Nat) (g : Nat → Int32) : JC := .inr (7, [.ref (b + 1), .ref (b + 2), .ref (b + 3), .int (g 0), .int (g 1), .ref (b + 4), .ref (b + 5), .int (g 2), .int (g 3), .ref (b + 6), .int (g 4), .int (g 5)])
def cZ (n : Nat) (g : Nat → Int32) : JC := .inl (1, n, .inl g)
def layM : Lay := (7, fun b r g => if r = 0 then cM b g else if r = 1 then cI 245 g else if r = 2 then cI 980 g else if r = 3 then cI 245 g else if r = 4 then cZ 12 g else if r = 5 then cI 90 g else cI 60 g, fun r => (r, 0))
abbrev mm (b : Nat) (m : Mem) (M : JM) : JM := um layM b m M
theorem layM_i {r : Nat} (h : r < 7) : ∀ r', r' < layM.1 → r' ≠ r → ¬ ((layM.2.2 r').1 = (layM.2.2 r).1 ∧ (layM.2.2 r').2 = (layM.2.2 r).2) := fun r' _ hn q => hn q.1
section MMS
variable {b i k : Nat} {m : Mem} {M : JM} {v : Int32}
theorem mm_M : mm b m M b = cM b (m 0 0) := um_rd (L := layM) (b := b) (r := 0) (by decide)
theorem mm_1 : mm b m M (b + 1) = cI 245 (m 1 0) := um_rd (L := layM) (r := 1) (by decide)
theorem mm_2 : mm b m M (b + 2) = cI 980 (m 2 0) := um_rd (L := layM) (r := 2) (by decide)
theorem mm_3 : mm b m M (b + 3) = cI 245 (m 3 0) := um_rd (L := layM) (r := 3) (by decide)
theorem mm_4 : mm b m M (b + 4) = cZ 12 (m 4 0) := um_rd (L := layM) (r := 4) (by decide)
theorem mm_5 : mm b m M (b + 5) = cI 90 (m 5 0) := um_rd (L := layM) (r := 5) (by decide)
theorem mm_6 : mm b m M (b + 6) = cI 60 (m 6 0) := um_rd (L := layM) (r := 6) (by decide)
theorem mm_wM {C : JC} (hC : C = cM b (upd (m 0 0) k v)) : va_up (mm b m M) b C = mm b (up3 m 0 0 k v) M := um_wr (L := layM) (b := b) (r := 0) (by decide) (layM_i (by decide)) hC
theorem mm_w1 {C : JC} (hC : C = cI 245 (upd (m 1 0) k v)) : va_up (mm b m M) (b + 1) C = mm b (up3 m 1 0 k v) M := um_wr (L := layM) (b := b) (r := 1) (by decide) (layM_i (by decide)) hC
theorem mm_w2 {C : JC} (hC : C = cI 980 (upd (m 2 0) k v)) : va_up (mm b m M) (b + 2) C = mm b (up3 m 2 0 k v) M := um_wr (L := layM) (b := b) (r := 2) (by decide) (layM_i (by decide)) hC
theorem mm_w3 {C : JC} (hC : C = cI 245 (upd (m 3 0) k v)) : va_up (mm b m M) (b + 3) C = mm b (up3 m 3 0 k v) M := um_wr (L := layM) (b := b) (r := 3) (by decide) (layM_i (by decide)) hC
theorem mm_w4 {C : JC} (hC : C = cZ 12 (upd (m 4 0) k v)) : va_up (mm b m M) (b + 4) C = mm b (up3 m 4 0 k v) M := um_wr (L := layM) (b := b) (r := 4) (by decide) (layM_i (by decide)) hC
theorem mm_w5 {C : JC} (hC : C = cI 90 (upd (m 5 0) k v)) : va_up (mm b m M) (b + 5) C = mm b (up3 m 5 0 k v) M := um_wr (L := layM) (b := b) (r := 5) (by decide) (layM_i (by decide)) hC
theorem mm_w6 {C : JC} (hC : C = cI 60 (upd (m 6 0) k v)) : va_up (mm b m M) (b + 6) C = mm b (up3 m 6 0 k v) M := um_wr (L := layM) (b := b) (r := 6) (by decide) (layM_i (by decide)) hC
end MMS
theorem lc_ltT {x y : Int64} (h : x < y) : lg_cmp x y < 0 := (lg_cmp_lt x y).mpr h
theorem lc_ltF {x y : Int64} (h : ¬ x < y) : ¬ lg_cmp x y < 0 := fun q => h ((lg_cmp_lt x y).mp q)
theorem lc_gtT {x y : Int64} (h : y < x) : 0 < lg_cmp x y := (lg_cmp_gt x y).mpr h
theorem lc_gtF {x y : Int64} (h : ¬ y < x) : ¬ 0 < lg_cmp x y := fun q => h ((lg_cmp_gt x y).mp q)
theorem nI_addE {x y : Int32} {a b : Nat} (hx : x = nI a) (hy : y = nI b) : x + y = nI (a + b) := by rw [hx, hy, nI_add]
theorem nI_mulE {x y : Int32} {a b : Nat} (hx : x = nI a) (hy : y = nI b) : x * y = nI (a * b) := by rw [hx, hy, pk_mul]
theorem nI_subE {x y : Int32} {a b : Nat} (hx : x = nI a) (hy : y = nI b) (h : b ≤ a) : x - y = nI (a - b) := by rw [hx, hy, pk_sub h]
theorem nI_dec {a j : Nat} (h : j + 1 ≤ a) : nI (a - j) + (-1) = nI (a - (j + 1)) := by
  rw [show a - j = a - (j + 1) + 1 by omega]
  exact pk_m1 _
def MK (m : Mem) : Prop := VN 6 (m 1 0 0) ∧ VN 3 (m 1 0 1) ∧ VN 12 (m 1 0 2) ∧ VN 30 (m 1 0 7) ∧ VX 12 (m 1 0 21) ∧ VX 12 (m 1 0 26) ∧ VX 12 (m 1 0 31)
theorem MK.ns {m : Mem} (h : MK m) : VN 6 (m 1 0 0) := h.1
theorem MK.nt {m : Mem} (h : MK m) : VN 3 (m 1 0 1) := h.2.1
theorem MK.na {m : Mem} (h : MK m) : VN 12 (m 1 0 2) := h.2.2.1
theorem MK.ev {m : Mem} (h : MK m) : VN 30 (m 1 0 7) := h.2.2.2.1
theorem MK.tu {m : Mem} (h : MK m) {j : Nat} (hj : j < 3) : VX 12 (m 1 0 (20 + 5 * j + 1)) := by
  match j, hj with
  | 0, _ => exact h.2.2.2.2.1
  | 1, _ => exact h.2.2.2.2.2.1
  | 2, _ => exact h.2.2.2.2.2.2
noncomputable def y_X7_in (p1 : Int64) (p2 : Int64) (p3 : Int64) : Bool := (if p1 < p2 then false else (if p3 < p1 then false else true))
theorem xe_X7_in : ∃ f, f = y_X7_in := ⟨y_X7_in, rfl⟩
noncomputable def x_X7_in := Classical.choose xe_X7_in
theorem x_X7_in_eq : x_X7_in = y_X7_in := Classical.choose_spec xe_X7_in
noncomputable def y_X7_standAt (p1 : Int32) (p2 : Int32) : Int32 := ((8 + (2 * p1)) + p2)
theorem xe_X7_standAt : ∃ f, f = y_X7_standAt := ⟨y_X7_standAt, rfl⟩
noncomputable def x_X7_standAt := Classical.choose xe_X7_standAt
theorem x_X7_standAt_eq : x_X7_standAt = y_X7_standAt := Classical.choose_spec xe_X7_standAt
theorem sa_at {x y : Int32} {q w : Nat} (hx : x = nI q) (hy : y = nI w) : x_X7_standAt x y = nI (8 + 2 * q + w) := by
  rw [x_X7_standAt_eq]
  unfold y_X7_standAt
  exact nI_addE (nI_addE (rfl : (8 : Int32) = nI 8) (nI_mulE (rfl : (2 : Int32) = nI 2) hx)) hy
noncomputable def y_X7_tugAt (p1 : Int32) (p2 : Int32) : Int32 := ((20 + (5 * p1)) + p2)
theorem xe_X7_tugAt : ∃ f, f = y_X7_tugAt := ⟨y_X7_tugAt, rfl⟩
noncomputable def x_X7_tugAt := Classical.choose xe_X7_tugAt
theorem x_X7_tugAt_eq : x_X7_tugAt = y_X7_tugAt := Classical.choose_spec xe_X7_tugAt
theorem ta_at {x y : Int32} {q w : Nat} (hx : x = nI q) (hy : y = nI w) : x_X7_tugAt x y = nI (20 + 5 * q + w) := by
  rw [x_X7_tugAt_eq]
  unfold y_X7_tugAt
  exact nI_addE (nI_addE (rfl : (20 : Int32) = nI 20) (nI_mulE (rfl : (5 : Int32) = nI 5) hx)) hy
noncomputable def y_X7_planeAt (p1 : Int32) (p2 : Int32) : Int32 := ((35 + (10 * p1)) + p2)
theorem xe_X7_planeAt : ∃ f, f = y_X7_planeAt := ⟨y_X7_planeAt, rfl⟩
noncomputable def x_X7_planeAt := Classical.choose xe_X7_planeAt
theorem x_X7_planeAt_eq : x_X7_planeAt = y_X7_planeAt := Classical.choose_spec xe_X7_planeAt
theorem pa_at {x y : Int32} {q w : Nat} (hx : x = nI q) (hy : y = nI w) : x_X7_planeAt x y = nI (35 + 10 * q + w) := by
  rw [x_X7_planeAt_eq]
  unfold y_X7_planeAt
  exact nI_addE (nI_addE (rfl : (35 : Int32) = nI 35) (nI_mulE (rfl : (10 : Int32) = nI 10) hx)) hy
noncomputable def y_X7_of (m : Mem) (q : Nat) (w : Nat) : Int32 := (m 1 0 (35 + 10 * q + w))
theorem xe_X7_of : ∃ f, f = y_X7_of := ⟨y_X7_of, rfl⟩
noncomputable def x_X7_of := Classical.choose xe_X7_of
theorem x_X7_of_eq : x_X7_of = y_X7_of := Classical.choose_spec xe_X7_of
noncomputable def y_X7_thrown (m : Mem) : Int32 := (m 0 0 1)
theorem xe_X7_thrown : ∃ f, f = y_X7_thrown := ⟨y_X7_thrown, rfl⟩
noncomputable def x_X7_thrown := Classical.choose xe_X7_thrown
theorem x_X7_thrown_eq : x_X7_thrown = y_X7_thrown := Classical.choose_spec xe_X7_thrown
noncomputable def y_X7_fine (m : Mem) (p1 : Int32) : Mem × Int32 := ((up3 m 0 0 1 0), p1)
theorem xe_X7_fine : ∃ f, f = y_X7_fine := ⟨y_X7_fine, rfl⟩
noncomputable def x_X7_fine := Classical.choose xe_X7_fine
theorem x_X7_fine_eq : x_X7_fine = y_X7_fine := Classical.choose_spec xe_X7_fine
noncomputable def y_X7_throwing (m : Mem) (p1 : Int32) : Mem × Int32 := ((up3 m 0 0 1 p1), 0)
theorem xe_X7_throwing : ∃ f, f = y_X7_throwing := ⟨y_X7_throwing, rfl⟩
noncomputable def x_X7_throwing := Classical.choose xe_X7_throwing
theorem x_X7_throwing_eq : x_X7_throwing = y_X7_throwing := Classical.choose_spec xe_X7_throwing
noncomputable def y_X7_isStand (m : Mem) (p1 : Int32) : Bool := (x_X7_in ((p1).toInt64) 0 (((m 1 0 0)).toInt64 - 1))
theorem xe_X7_isStand : ∃ f, f = y_X7_isStand := ⟨y_X7_isStand, rfl⟩
noncomputable def x_X7_isStand := Classical.choose xe_X7_isStand
theorem x_X7_isStand_eq : x_X7_isStand = y_X7_isStand := Classical.choose_spec xe_X7_isStand
noncomputable def y_X7_isTug (m : Mem) (p1 : Int32) : Bool := (x_X7_in ((p1).toInt64) 0 (((m 1 0 1)).toInt64 - 1))
theorem xe_X7_isTug : ∃ f, f = y_X7_isTug := ⟨y_X7_isTug, rfl⟩
noncomputable def x_X7_isTug := Classical.choose xe_X7_isTug
theorem x_X7_isTug_eq : x_X7_isTug = y_X7_isTug := Classical.choose_spec xe_X7_isTug
noncomputable def y_X7_isPlane (m : Mem) (p1 : Int32) : Bool := (x_X7_in ((p1).toInt64) 0 (((m 1 0 2)).toInt64 - 1))
theorem xe_X7_isPlane : ∃ f, f = y_X7_isPlane := ⟨y_X7_isPlane, rfl⟩
noncomputable def x_X7_isPlane := Classical.choose xe_X7_isPlane
theorem x_X7_isPlane_eq : x_X7_isPlane = y_X7_isPlane := Classical.choose_spec xe_X7_isPlane
noncomputable def y_X7_isCurfew (m : Mem) : Bool := (x_X7_in ((((m 1 0 3) - (m 1 0 3) / 1440 * 1440)).toInt64) (((m 1 0 4)).toInt64) (((m 1 0 5)).toInt64 - 1))
theorem xe_X7_isCurfew : ∃ f, f = y_X7_isCurfew := ⟨y_X7_isCurfew, rfl⟩
noncomputable def x_X7_isCurfew := Classical.choose xe_X7_isCurfew
theorem x_X7_isCurfew_eq : x_X7_isCurfew = y_X7_isCurfew := Classical.choose_spec xe_X7_isCurfew
noncomputable def bd_X7_inState_4 (m : Mem) (w1 : Int32) (j : Nat) (c2 : Int32) : Int32 := (if (x_X7_of m j 5) = w1 then (c2 + 1) else (c2 + 0))
noncomputable def ly_X7_inState_4 (m : Mem) (w1 : Int32) (N : Nat) (c2 : Int32) : Int32 := itr (fun jz s => bd_X7_inState_4 m w1 jz s) N 0 c2
theorem le_X7_inState_4 : ∃ f, f = ly_X7_inState_4 := ⟨ly_X7_inState_4, rfl⟩
noncomputable def lf_X7_inState_4 := Classical.choose le_X7_inState_4
theorem lf_X7_inState_4_eq : lf_X7_inState_4 = ly_X7_inState_4 := Classical.choose_spec le_X7_inState_4
noncomputable def y_X7_inState (m : Mem) (p1 : Int32) : Int32 := (lf_X7_inState_4 m p1 (ix (m 1 0 2)) 0)
theorem xe_X7_inState : ∃ f, f = y_X7_inState := ⟨y_X7_inState, rfl⟩
noncomputable def x_X7_inState := Classical.choose xe_X7_inState
theorem x_X7_inState_eq : x_X7_inState = y_X7_inState := Classical.choose_spec xe_X7_inState
noncomputable def bd_X7_planeOf_4 (m : Mem) (w1 : Int32) (j : Nat) (c2 : Int32) : Int32 := (if (x_X7_of m j 5) = 1 then (if (x_X7_of m j 6) = w1 then (nI j) else c2) else (if (x_X7_of m j 5) = 3 then (if (x_X7_of m j 6) = w1 then (nI j) else c2) else (if (x_X7_of m j 5) = 4 then (if (x_X7_of m j 6) = w1 then (nI j) else c2) else c2)))
noncomputable def ly_X7_planeOf_4 (m : Mem) (w1 : Int32) (N : Nat) (c2 : Int32) : Int32 := itr (fun jz s => bd_X7_planeOf_4 m w1 jz s) N 0 c2
theorem le_X7_planeOf_4 : ∃ f, f = ly_X7_planeOf_4 := ⟨ly_X7_planeOf_4, rfl⟩
noncomputable def lf_X7_planeOf_4 := Classical.choose le_X7_planeOf_4
theorem lf_X7_planeOf_4_eq : lf_X7_planeOf_4 = ly_X7_planeOf_4 := Classical.choose_spec le_X7_planeOf_4
theorem fb_X7_planeOf_4 {m : Mem} {w1 : Int32} {j : Nat} {c2 : Int32} (hjN : j < 12) (hb : VX 12 c2) : (VX 12 (bd_X7_planeOf_4 m w1 j c2)) := by
  unfold bd_X7_planeOf_4
  by_cases h21 : (x_X7_of m j 5) = 1
  · rw [if_pos h21]
    by_cases h64 : (x_X7_of m j 6) = w1
    · rw [if_pos h64]
      exact (by first | assumption | exact VX_nI (by omega) (by decide))
    · rw [if_neg h64]
      exact (by first | assumption | exact VX_nI (by omega) (by decide))
  · rw [if_neg h21]
    by_cases h31 : (x_X7_of m j 5) = 3
    · rw [if_pos h31]
      by_cases h64 : (x_X7_of m j 6) = w1
      · rw [if_pos h64]
        exact (by first | assumption | exact VX_nI (by omega) (by decide))
      · rw [if_neg h64]
        exact (by first | assumption | exact VX_nI (by omega) (by decide))
    · rw [if_neg h31]
      by_cases h41 : (x_X7_of m j 5) = 4
      · rw [if_pos h41]
        by_cases h64 : (x_X7_of m j 6) = w1
        · rw [if_pos h64]
          exact (by first | assumption | exact VX_nI (by omega) (by decide))
        · rw [if_neg h64]
          exact (by first | assumption | exact VX_nI (by omega) (by decide))
      · rw [if_neg h41]
        exact (by first | assumption | exact VX_nI (by omega) (by decide))
theorem fl_X7_planeOf_4 {m : Mem} {w1 : Int32} {N : Nat} {c2 : Int32} (hNc : N ≤ 12) (hb : VX 12 c2) : (VX 12 (lf_X7_planeOf_4 m w1 N c2)) := by
  rw [lf_X7_planeOf_4_eq]
  unfold ly_X7_planeOf_4
  exact itr_inv (n := N) (s := c2) (P := fun jz s => (VX 12 s)) (fun jz s => bd_X7_planeOf_4 m w1 jz s) (fun jz s hj hs => fb_X7_planeOf_4 (j := jz) (c2 := s) (by omega) hs) hb
noncomputable def y_X7_planeOf (m : Mem) (p1 : Int32) : Int32 := (lf_X7_planeOf_4 m p1 (ix (m 1 0 2)) (-1))
theorem xe_X7_planeOf : ∃ f, f = y_X7_planeOf := ⟨y_X7_planeOf, rfl⟩
noncomputable def x_X7_planeOf := Classical.choose xe_X7_planeOf
theorem x_X7_planeOf_eq : x_X7_planeOf = y_X7_planeOf := Classical.choose_spec xe_X7_planeOf
theorem vx_X7_planeOf {m : Mem} {p1 : Int32} (hF : MK m) : VX 12 (x_X7_planeOf m p1) := by
  rw [x_X7_planeOf_eq]
  exact fl_X7_planeOf_4 hF.na.2 (Or.inl rfl)
noncomputable def bd_X7_standFor_4 (m : Mem) (q : Nat) (j : Nat) (c2 : Int32) : Int32 := (if (m 1 0 (8 + 2 * j + 0)) < (x_X7_of m q 0) then c2 else (if (x_X7_planeOf m (nI j)) = (-1) then (if c2 = (-1) then (nI j) else (if (m 1 0 (8 + 2 * j + 0)) < (m 1 0 (8 + 2 * (ix c2) + 0)) then (nI j) else c2)) else c2))
noncomputable def ly_X7_standFor_4 (m : Mem) (q : Nat) (N : Nat) (c2 : Int32) : Int32 := itr (fun jz s => bd_X7_standFor_4 m q jz s) N 0 c2
theorem le_X7_standFor_4 : ∃ f, f = ly_X7_standFor_4 := ⟨ly_X7_standFor_4, rfl⟩
noncomputable def lf_X7_standFor_4 := Classical.choose le_X7_standFor_4
theorem lf_X7_standFor_4_eq : lf_X7_standFor_4 = ly_X7_standFor_4 := Classical.choose_spec le_X7_standFor_4
theorem fb_X7_standFor_4 {m : Mem} {q : Nat} (hF : MK m) (hq : q < 12) {j : Nat} {c2 : Int32} (hjN : j < 6) (hb : VX 6 c2) : (VX 6 (bd_X7_standFor_4 m q j c2)) := by
  unfold bd_X7_standFor_4
  by_cases h34 : (m 1 0 (8 + 2 * j + 0)) < (x_X7_of m q 0)
  · rw [if_pos h34]
    exact (by first | assumption | exact VX_nI (by omega) (by decide))
  · rw [if_neg h34]
    by_cases h43 : (x_X7_planeOf m (nI j)) = (-1)
    · rw [if_pos h43]
      by_cases h60 : c2 = (-1)
      · rw [if_pos h60]
        exact (by first | assumption | exact VX_nI (by omega) (by decide))
      · rw [if_neg h60]
        have b63 : ix c2 < 6 := VX.lt hb h60
        by_cases h75 : (m 1 0 (8 + 2 * j + 0)) < (m 1 0 (8 + 2 * (ix c2) + 0))
        · rw [if_pos h75]
          exact (by first | assumption | exact VX_nI (by omega) (by decide))
        · rw [if_neg h75]
          exact (by first | assumption | exact VX_nI (by omega) (by decide))
    · rw [if_neg h43]
      exact (by first | assumption | exact VX_nI (by omega) (by decide))
theorem fl_X7_standFor_4 {m : Mem} {q : Nat} {N : Nat} (hF : MK m) (hq : q < 12) {c2 : Int32} (hNc : N ≤ 6) (hb : VX 6 c2) : (VX 6 (lf_X7_standFor_4 m q N c2)) := by
  rw [lf_X7_standFor_4_eq]
  unfold ly_X7_standFor_4
  exact itr_inv (n := N) (s := c2) (P := fun jz s => (VX 6 s)) (fun jz s => bd_X7_standFor_4 m q jz s) (fun jz s hj hs => fb_X7_standFor_4 hF hq (j := jz) (c2 := s) (by omega) hs) hb
noncomputable def y_X7_standFor (m : Mem) (q : Nat) : Int32 := (lf_X7_standFor_4 m q (ix (m 1 0 0)) (-1))
theorem xe_X7_standFor : ∃ f, f = y_X7_standFor := ⟨y_X7_standFor, rfl⟩
noncomputable def x_X7_standFor := Classical.choose xe_X7_standFor
theorem x_X7_standFor_eq : x_X7_standFor = y_X7_standFor := Classical.choose_spec xe_X7_standFor
theorem vx_X7_standFor {m : Mem} {q : Nat} (hF : MK m) (hq : q < 12) : VX 6 (x_X7_standFor m q) := by
  rw [x_X7_standFor_eq]
  exact fl_X7_standFor_4 hF hq hF.ns.2 (Or.inl rfl)
