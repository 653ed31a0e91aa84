/-! the timetable: its object b, its rows b + 1 to b + 5 -/
def cTT (b : Nat) (g : Nat → Int32) : JC := .inr (4, [.ref (b + 1), .int (g 0), .ref (b + 2), .ref (b + 3), .ref (b + 4), .ref (b + 5), .int (g 1), .int (g 2), .int (g 3)])
def layT : Lay := (6, fun b r g => if r = 0 then cTT b g else if r = 1 then cI 90 g else cI 12 g, fun r => (r, 0))
abbrev tm (b : Nat) (m : Mem) (M : JM) : JM := um layT b m M
theorem layT_i {r : Nat} (h : r < 6) : ∀ r', r' < layT.1 → r' ≠ r → ¬ ((layT.2.2 r').1 = (layT.2.2 r).1 ∧ (layT.2.2 r').2 = (layT.2.2 r).2) := fun r' _ hn q => hn q.1
section TMS
variable {b i k : Nat} {m : Mem} {M : JM} {v : Int32}
theorem tm_T : tm b m M b = cTT b (m 0 0) := um_rd (L := layT) (b := b) (r := 0) (by decide)
theorem tm_1 : tm b m M (b + 1) = cI 90 (m 1 0) := um_rd (L := layT) (r := 1) (by decide)
theorem tm_2 : tm b m M (b + 2) = cI 12 (m 2 0) := um_rd (L := layT) (r := 2) (by decide)
theorem tm_3 : tm b m M (b + 3) = cI 12 (m 3 0) := um_rd (L := layT) (r := 3) (by decide)
theorem tm_4 : tm b m M (b + 4) = cI 12 (m 4 0) := um_rd (L := layT) (r := 4) (by decide)
theorem tm_5 : tm b m M (b + 5) = cI 12 (m 5 0) := um_rd (L := layT) (r := 5) (by decide)
theorem tm_wT {C : JC} (hC : C = cTT b (upd (m 0 0) k v)) : va_up (tm b m M) b C = tm b (up3 m 0 0 k v) M := um_wr (L := layT) (b := b) (r := 0) (by decide) (layT_i (by decide)) hC
theorem tm_w1 {C : JC} (hC : C = cI 90 (upd (m 1 0) k v)) : va_up (tm b m M) (b + 1) C = tm b (up3 m 1 0 k v) M := um_wr (L := layT) (b := b) (r := 1) (by decide) (layT_i (by decide)) hC
theorem tm_w2 {C : JC} (hC : C = cI 12 (upd (m 2 0) k v)) : va_up (tm b m M) (b + 2) C = tm b (up3 m 2 0 k v) M := um_wr (L := layT) (b := b) (r := 2) (by decide) (layT_i (by decide)) hC
theorem tm_w3 {C : JC} (hC : C = cI 12 (upd (m 3 0) k v)) : va_up (tm b m M) (b + 3) C = tm b (up3 m 3 0 k v) M := um_wr (L := layT) (b := b) (r := 3) (by decide) (layT_i (by decide)) hC
theorem tm_w4 {C : JC} (hC : C = cI 12 (upd (m 4 0) k v)) : va_up (tm b m M) (b + 4) C = tm b (up3 m 4 0 k v) M := um_wr (L := layT) (b := b) (r := 4) (by decide) (layT_i (by decide)) hC
theorem tm_w5 {C : JC} (hC : C = cI 12 (upd (m 5 0) k v)) : va_up (tm b m M) (b + 5) C = tm b (up3 m 5 0 k v) M := um_wr (L := layT) (b := b) (r := 5) (by decide) (layT_i (by decide)) hC
end TMS
def PW (B : Nat) (m0 m : Mem) : Prop := B = B ∧ (VN 90 (m 0 0 0) ∧ VN 90 (m 0 0 2)) ∧ (m 0 0 0 = m0 0 0 0 ∧ m 0 0 1 = m0 0 0 1) ∧ m 1 = m0 1
section PWS
variable {B B' k : Nat} {m0 m : Mem} {v : Int32}
theorem PW.mono (h : PW B m0 m) (_ : B ≤ B') : PW B' m0 m := ⟨rfl, h.2⟩
theorem PW.self (h0 : VN 90 (m 0 0 0)) (h2 : VN 90 (m 0 0 2)) : PW B m m := ⟨rfl, ⟨h0, h2⟩, ⟨rfl, rfl⟩, rfl⟩
theorem PW.n (h : PW B m0 m) : PW B m0 (up3 m 0 0 3 v) := ⟨rfl, h.2.1, h.2.2.1, (up3_fam (by decide)).trans h.2.2.2⟩
theorem PW.p (h : PW B m0 m) (hv : VN 90 v) : PW B m0 (up3 m 0 0 2 v) := ⟨rfl, ⟨h.2.1.1, hv⟩, h.2.2.1, (up3_fam (by decide)).trans h.2.2.2⟩
theorem PW.r {f : Nat} (hf : 1 < f) (h : PW B m0 m) : PW B m0 (up3 m f 0 k v) := by
  have e : ∀ q, up3 m f 0 k v 0 0 q = m 0 0 q := fun q => up3_ne (fun z => by omega)
  refine ⟨rfl, ⟨?_, ?_⟩, ?_, (up3_fam (by omega)).trans h.2.2.2⟩
  · rw [e]; exact h.2.1.1
  · rw [e]; exact h.2.1.2
  · rw [e, e]; exact h.2.2.1
theorem pw_nn (h : PW B m0 m) : ¬ m 0 0 2 < 0 := vn_nn h.2.1.2 (by decide)
theorem pw_up (h : PW B m0 m) (hl : m 0 0 2 < m 0 0 0) : VN 90 (m 0 0 2 + 1) := vn_lt1 h.2.1.2 h.2.1.1 (by decide) hl
end PWS
noncomputable def y_X6_isOutside (p1 : Int32) (p2 : Int32) (p3 : Int32) : Bool := (if p1 < p2 then true else (if p3 < p1 then true else false))
theorem xe_X6_isOutside : ∃ f, f = y_X6_isOutside := ⟨y_X6_isOutside, rfl⟩
noncomputable def x_X6_isOutside := Classical.choose xe_X6_isOutside
theorem x_X6_isOutside_eq : x_X6_isOutside = y_X6_isOutside := Classical.choose_spec xe_X6_isOutside
theorem ev_X6_isOutside {d n c s : Nat} {M : JM} {p1 : Int32} {p2 : Int32} {p3 : Int32} {res : Bool} (hd : 1 ≤ d)   (hx : x_X6_isOutside p1 p2 p3 = res) : Ev mtab mcode d 85 [.int p1, .int p2, .int p3] (n, c, s, M) (.inl (some (.int (bI res)))) (n, c, s, M) := by
  obtain ⟨d, rfl⟩ : ∃ e, d = e + 1 := ⟨d - 1, by omega⟩
  rw [x_X6_isOutside_eq] at hx
  unfold y_X6_isOutside at hx
  refine jv_mk (m := mX6_isOutside) (cd := jcX6_isOutside) rfl rfl (Nat.le_of_ble_eq_true rfl) (bI_or _) ?_
  refine JV.ild (p2 := 1) rfl rfl rfl ?_
  refine JV.ild (p2 := 2) rfl rfl rfl ?_
  by_cases h2 : p1 < p2
  · rw [if_pos h2] at hx
    refine JV.brT rfl rfl h2 ?_
    refine JV.stk (len := 1) (sem := (s_push (.int 1))) (p2 := 11) rfl rfl rfl ?_
    refine JV.goto rfl ?_
    subst hx
    exact JV.ret rfl (fun _ => rfl) rfl rfl
  · rw [if_neg h2] at hx
    refine JV.brF (p2 := 5) rfl rfl rfl h2 ?_
    refine JV.ild (p2 := 6) rfl rfl rfl ?_
    refine JV.ild (p2 := 7) rfl rfl rfl ?_
    by_cases h7 : p3 < p1
    · rw [if_pos h7] at hx
      refine JV.brF (p2 := 10) rfl rfl rfl (Int32.not_le.mpr h7) ?_
      refine JV.stk (len := 1) (sem := (s_push (.int 1))) (p2 := 11) rfl rfl rfl ?_
      refine JV.goto rfl ?_
      subst hx
      exact JV.ret rfl (fun _ => rfl) rfl rfl
    · rw [if_neg h7] at hx
      refine JV.brT rfl rfl (Int32.not_lt.mp h7) ?_
      refine JV.stk (len := 1) (sem := (s_push (.int 0))) (p2 := 15) rfl rfl rfl ?_
      subst hx
      exact JV.ret rfl (fun _ => rfl) rfl rfl
noncomputable def y_X6_isKind (p1 : Int32) : Bool := (if (x_X6_isOutside p1 11 43) = true then false else (if (x_X6_isOutside (p1 - p1 / 10 * 10) 1 3) = true then false else true))
theorem xe_X6_isKind : ∃ f, f = y_X6_isKind := ⟨y_X6_isKind, rfl⟩
noncomputable def x_X6_isKind := Classical.choose xe_X6_isKind
theorem x_X6_isKind_eq : x_X6_isKind = y_X6_isKind := Classical.choose_spec xe_X6_isKind
theorem ev_X6_isKind {d n c s : Nat} {M : JM} {p1 : Int32} {res : Bool} (hd : 2 ≤ d)   (hx : x_X6_isKind p1 = res) : Ev mtab mcode d 86 [.int p1] (n, c, s, M) (.inl (some (.int (bI res)))) (n, c, s, M) := by
  obtain ⟨d, rfl⟩ : ∃ e, d = e + 1 := ⟨d - 1, by omega⟩
  rw [x_X6_isKind_eq] at hx
  unfold y_X6_isKind at hx
  refine jv_mk (m := mX6_isKind) (cd := jcX6_isKind) rfl rfl (Nat.le_of_ble_eq_true rfl) (bI_or _) ?_
  refine JV.ild (p2 := 1) rfl rfl rfl ?_
  refine JV.stk (len := 2) (sem := (s_push (.int 11))) (p2 := 3) rfl rfl rfl ?_
  refine JV.stk (len := 2) (sem := (s_push (.int 43))) (p2 := 5) rfl rfl rfl ?_
  refine JV.insI (p2 := 8) rfl (Nat.le_of_ble_eq_true rfl) rfl rfl (Nat.le_of_ble_eq_true rfl) rfl (ev_X6_isOutside (by omega) rfl) rfl ?_
  by_cases h8 : (x_X6_isOutside p1 11 43) = true
  · rw [if_pos h8] at hx
    refine JV.brT rfl rfl (bI_t h8) ?_
    refine JV.stk (len := 1) (sem := (s_push (.int 0))) (p2 := 28) rfl rfl rfl ?_
    subst hx
    exact JV.ret rfl (fun _ => rfl) rfl rfl
  · rw [if_neg h8] at hx
    refine JV.brF (p2 := 11) rfl rfl rfl (fun e => e (bI_f h8)) ?_
    refine JV.ild (p2 := 12) rfl rfl rfl ?_
    refine JV.stk (len := 2) (sem := (s_push (.int 10))) (p2 := 14) rfl rfl rfl ?_
    refine JV.stk (len := 1) (sem := s_irem) (p2 := 15) rfl rfl rfl ?_
    refine JV.stk (len := 1) (sem := (s_push (.int 1))) (p2 := 16) rfl rfl rfl ?_
    refine JV.stk (len := 1) (sem := (s_push (.int 3))) (p2 := 17) rfl rfl rfl ?_
    refine JV.insI (p2 := 20) rfl (Nat.le_of_ble_eq_true rfl) rfl rfl (Nat.le_of_ble_eq_true rfl) rfl (ev_X6_isOutside (by omega) rfl) rfl ?_
    by_cases h20 : (x_X6_isOutside (p1 - p1 / 10 * 10) 1 3) = true
    · rw [if_pos h20] at hx
      refine JV.brT rfl rfl (bI_t h20) ?_
      refine JV.stk (len := 1) (sem := (s_push (.int 0))) (p2 := 28) rfl rfl rfl ?_
      subst hx
      exact JV.ret rfl (fun _ => rfl) rfl rfl
    · rw [if_neg h20] at hx
      refine JV.brF (p2 := 23) rfl rfl rfl (fun e => e (bI_f h20)) ?_
      refine JV.stk (len := 1) (sem := (s_push (.int 1))) (p2 := 24) rfl rfl rfl ?_
      refine JV.goto rfl ?_
      subst hx
      exact JV.ret rfl (fun _ => rfl) rfl rfl
noncomputable def y_X4_byteHere (m : Mem) : Int32 := (if (m 0 0 2) < (m 0 0 0) then (m 1 0 (ix (m 0 0 2))) else (-1))
theorem xe_X4_byteHere : ∃ f, f = y_X4_byteHere := ⟨y_X4_byteHere, rfl⟩
noncomputable def x_X4_byteHere := Classical.choose xe_X4_byteHere
theorem x_X4_byteHere_eq : x_X4_byteHere = y_X4_byteHere := Classical.choose_spec xe_X4_byteHere
noncomputable def y_X4_digitHere (m : Mem) : Int32 := (if (x_X6_isOutside (x_X4_byteHere m) 48 57) = true then (-1) else ((x_X4_byteHere m) - 48))
theorem xe_X4_digitHere : ∃ f, f = y_X4_digitHere := ⟨y_X4_digitHere, rfl⟩
noncomputable def x_X4_digitHere := Classical.choose xe_X4_digitHere
theorem x_X4_digitHere_eq : x_X4_digitHere = y_X4_digitHere := Classical.choose_spec xe_X4_digitHere
theorem byte_lt {m : Mem} (h : ¬ x_X4_byteHere m = -1) : m 0 0 2 < m 0 0 0 := by
  rw [x_X4_byteHere_eq] at h
  unfold y_X4_byteHere at h
  split at h
  · assumption
  · exact absurd rfl h
theorem out_of {x a c : Int32} (h : ¬ x_X6_isOutside x a c = true) : ¬ x < a ∧ ¬ c < x := by
  rw [x_X6_isOutside_eq] at h
  unfold y_X6_isOutside at h
  refine ⟨fun e => ?_, fun e => ?_⟩
  · rw [if_pos e] at h
    exact h rfl
  · split at h
    · exact h rfl
    · first
      | exact h rfl
      | (rw [if_pos e] at h; exact h rfl)
theorem digit_lt {m : Mem} (h : ¬ x_X4_digitHere m = -1) : m 0 0 2 < m 0 0 0 := by
  rw [x_X4_digitHere_eq] at h
  unfold y_X4_digitHere at h
  split at h
  · exact absurd rfl h
  · rename_i e
    refine byte_lt (fun q => ?_)
    have := (out_of e).1
    rw [q] at this
    exact this (by decide)
theorem out_lt {m : Mem} {a c : Int32} (ha : -1 < a) (h : ¬ x_X6_isOutside (x_X4_digitHere m) a c = true) : m 0 0 2 < m 0 0 0 := digit_lt (fun q => by
  have := (out_of h).1
  rw [q] at this
  exact this ha)
noncomputable def y_X4_readSign (m : Mem) (p1 : Int32) : Mem × Int32 := (if (x_X4_byteHere m) = p1 then ((up3 m 0 0 2 ((m 0 0 2) + 1)), (-1)) else (m, (m 0 0 2)))
theorem xe_X4_readSign : ∃ f, f = y_X4_readSign := ⟨y_X4_readSign, rfl⟩
noncomputable def x_X4_readSign := Classical.choose xe_X4_readSign
theorem x_X4_readSign_eq : x_X4_readSign = y_X4_readSign := Classical.choose_spec xe_X4_readSign
theorem fw_X4_readSign {m : Mem} {p1 : Int32} {B : Nat} {m0 : Mem} (hW : PW B m0 m) (hB : B + 0 < 2147483648) (hs : ¬ p1 = -1) : PW (B + 0) m0 (x_X4_readSign m p1).1 := by
  rw [x_X4_readSign_eq]
  unfold y_X4_readSign
  by_cases h5 : (x_X4_byteHere m) = p1
  · rw [if_pos h5]
    try dsimp only
    exact PW.mono (PW.p hW (pw_up hW (byte_lt (fun q => hs (h5.symm.trans q))))) (by omega)
  · rw [if_neg h5]
    try dsimp only
    exact PW.mono hW (by omega)
noncomputable def bd_X4_readNumber_14 (g : Nat) (w2 : Int32) (w3 : Int32) (w4 : Int32) (j : Nat) (m : Mem) : Mem := (if (x_X4_digitHere m) = (-1) then m else (up3 (up3 m 0 0 3 ((10 * (m 0 0 3)) + (x_X4_digitHere m))) 0 0 2 (((up3 m 0 0 3 ((10 * (m 0 0 3)) + (x_X4_digitHere m))) 0 0 2) + 1)))
noncomputable def ly_X4_readNumber_14 (g : Nat) (w2 : Int32) (w3 : Int32) (w4 : Int32) (N : Nat) (m : Mem) : Mem := itr (fun jz s => bd_X4_readNumber_14 g w2 w3 w4 jz s) N 0 m
theorem le_X4_readNumber_14 : ∃ f, f = ly_X4_readNumber_14 := ⟨ly_X4_readNumber_14, rfl⟩
noncomputable def lf_X4_readNumber_14 := Classical.choose le_X4_readNumber_14
theorem lf_X4_readNumber_14_eq : lf_X4_readNumber_14 = ly_X4_readNumber_14 := Classical.choose_spec le_X4_readNumber_14
theorem fb_X4_readNumber_14 {B : Nat} {m0 : Mem} {g : Nat} {w2 : Int32} {w3 : Int32} {w4 : Int32} (hB : B + 0 < 2147483648) {j : Nat} {m : Mem} (hjN : j < 4) (hW : PW (B + 0 * j) m0 m) : (PW (B + 0 * (j + 1)) m0 (bd_X4_readNumber_14 g w2 w3 w4 j m)) := by
  unfold bd_X4_readNumber_14
  by_cases h25 : (x_X4_digitHere m) = (-1)
  · rw [if_pos h25]
    exact (PW.mono hW (by omega))
  · rw [if_neg h25]
    exact (PW.mono (PW.p (PW.n hW) (pw_up (PW.n hW) (digit_lt (m := m) h25))) (by omega))
theorem fl_X4_readNumber_14 {B : Nat} {m0 : Mem} {g : Nat} {w2 : Int32} {w3 : Int32} {w4 : Int32} {N : Nat} (hB : B + 0 < 2147483648) {m : Mem} (hNc : N ≤ 4) (hW : PW (B + 0 * 0) m0 m) : (PW (B + 0 * N) m0 (lf_X4_readNumber_14 g w2 w3 w4 N m)) := by
  rw [lf_X4_readNumber_14_eq]
  unfold ly_X4_readNumber_14
  exact itr_inv (n := N) (s := m) (P := fun jz s => (PW (B + 0 * jz) m0 s)) (fun jz s => bd_X4_readNumber_14 g w2 w3 w4 jz s) (fun jz s hj hs => fb_X4_readNumber_14 (B := B) (m0 := m0) hB (j := jz) (m := s) (by omega) hs) hW
noncomputable def y_X4_readNumber (m : Mem) (g : Nat) (p2 : Int32) (p3 : Int32) : Mem × Int32 := (if ((lf_X4_readNumber_14 g p2 p3 (m 0 0 2) g (up3 m 0 0 3 0)) 0 0 2) = (m 0 0 2) then ((lf_X4_readNumber_14 g p2 p3 (m 0 0 2) g (up3 m 0 0 3 0)), ((lf_X4_readNumber_14 g p2 p3 (m 0 0 2) g (up3 m 0 0 3 0)) 0 0 2)) else (if (x_X4_digitHere (lf_X4_readNumber_14 g p2 p3 (m 0 0 2) g (up3 m 0 0 3 0))) = (-1) then (if (x_X6_isOutside ((lf_X4_readNumber_14 g p2 p3 (m 0 0 2) g (up3 m 0 0 3 0)) 0 0 3) p2 p3) = true then ((lf_X4_readNumber_14 g p2 p3 (m 0 0 2) g (up3 m 0 0 3 0)), (m 0 0 2)) else ((lf_X4_readNumber_14 g p2 p3 (m 0 0 2) g (up3 m 0 0 3 0)), (-1))) else ((lf_X4_readNumber_14 g p2 p3 (m 0 0 2) g (up3 m 0 0 3 0)), ((lf_X4_readNumber_14 g p2 p3 (m 0 0 2) g (up3 m 0 0 3 0)) 0 0 2))))
theorem xe_X4_readNumber : ∃ f, f = y_X4_readNumber := ⟨y_X4_readNumber, rfl⟩
noncomputable def x_X4_readNumber := Classical.choose xe_X4_readNumber
theorem x_X4_readNumber_eq : x_X4_readNumber = y_X4_readNumber := Classical.choose_spec xe_X4_readNumber
theorem fw_X4_readNumber {m : Mem} {g : Nat} {v_g : Int32} {p2 : Int32} {p3 : Int32} {B : Nat} {m0 : Mem} (e_g : v_g = nI g) (hW : PW B m0 m) (hB : B + 0 < 2147483648) (hg : g ≤ 4) : PW (B + 0) m0 (x_X4_readNumber m g p2 p3).1 := by
  subst e_g
  rw [x_X4_readNumber_eq]
  unfold y_X4_readNumber
  by_cases h66 : ((lf_X4_readNumber_14 g p2 p3 (m 0 0 2) g (up3 m 0 0 3 0)) 0 0 2) = (m 0 0 2)
  · rw [if_pos h66]
    try dsimp only
    exact PW.mono (PW.mono (fl_X4_readNumber_14 (m := (up3 m 0 0 3 0)) (N := g) (g := g) (w2 := p2) (w3 := p3) (w4 := (m 0 0 2)) (B := B) (m0 := m0) (by omega) hg (PW.mono (PW.n hW) (by omega))) (B' := B + 0) (by have hc9 := hg; omega)) (by omega)
  · rw [if_neg h66]
    by_cases h74 : (x_X4_digitHere (lf_X4_readNumber_14 g p2 p3 (m 0 0 2) g (up3 m 0 0 3 0))) = (-1)
    · rw [if_pos h74]
      by_cases h91 : (x_X6_isOutside ((lf_X4_readNumber_14 g p2 p3 (m 0 0 2) g (up3 m 0 0 3 0)) 0 0 3) p2 p3) = true
      · rw [if_pos h91]
        try dsimp only
        exact PW.mono (PW.mono (fl_X4_readNumber_14 (m := (up3 m 0 0 3 0)) (N := g) (g := g) (w2 := p2) (w3 := p3) (w4 := (m 0 0 2)) (B := B) (m0 := m0) (by omega) hg (PW.mono (PW.n hW) (by omega))) (B' := B + 0) (by have hc9 := hg; omega)) (by omega)
      · rw [if_neg h91]
        try dsimp only
        exact PW.mono (PW.mono (fl_X4_readNumber_14 (m := (up3 m 0 0 3 0)) (N := g) (g := g) (w2 := p2) (w3 := p3) (w4 := (m 0 0 2)) (B := B) (m0 := m0) (by omega) hg (PW.mono (PW.n hW) (by omega))) (B' := B + 0) (by have hc9 := hg; omega)) (by omega)
    · rw [if_neg h74]
      try dsimp only
      exact PW.mono (PW.mono (fl_X4_readNumber_14 (m := (up3 m 0 0 3 0)) (N := g) (g := g) (w2 := p2) (w3 := p3) (w4 := (m 0 0 2)) (B := B) (m0 := m0) (by omega) hg (PW.mono (PW.n hW) (by omega))) (B' := B + 0) (by have hc9 := hg; omega)) (by omega)
noncomputable def y_X4_readMinutes (m : Mem) (r : Nat) : Mem × Int32 := (if (x_X4_readNumber m 4 0 1999).2 = (-1) then (if (x_X4_readSign (up3 (x_X4_readNumber m 4 0 1999).1 3 0 r ((x_X4_readNumber m 4 0 1999).1 0 0 3)) 44).2 = (-1) then ((up3 (x_X4_readNumber ((x_X4_readSign (up3 (x_X4_readNumber m 4 0 1999).1 3 0 r ((x_X4_readNumber m 4 0 1999).1 0 0 3)) 44).1) 4 (((x_X4_readSign (up3 (x_X4_readNumber m 4 0 1999).1 3 0 r ((x_X4_readNumber m 4 0 1999).1 0 0 3)) 44).1 3 0 r) + 1) 1999).1 4 0 r ((x_X4_readNumber ((x_X4_readSign (up3 (x_X4_readNumber m 4 0 1999).1 3 0 r ((x_X4_readNumber m 4 0 1999).1 0 0 3)) 44).1) 4 (((x_X4_readSign (up3 (x_X4_readNumber m 4 0 1999).1 3 0 r ((x_X4_readNumber m 4 0 1999).1 0 0 3)) 44).1 3 0 r) + 1) 1999).1 0 0 3)), (x_X4_readNumber ((x_X4_readSign (up3 (x_X4_readNumber m 4 0 1999).1 3 0 r ((x_X4_readNumber m 4 0 1999).1 0 0 3)) 44).1) 4 (((x_X4_readSign (up3 (x_X4_readNumber m 4 0 1999).1 3 0 r ((x_X4_readNumber m 4 0 1999).1 0 0 3)) 44).1 3 0 r) + 1) 1999).2) else ((x_X4_readSign (up3 (x_X4_readNumber m 4 0 1999).1 3 0 r ((x_X4_readNumber m 4 0 1999).1 0 0 3)) 44).1, (x_X4_readSign (up3 (x_X4_readNumber m 4 0 1999).1 3 0 r ((x_X4_readNumber m 4 0 1999).1 0 0 3)) 44).2)) else ((x_X4_readNumber m 4 0 1999).1, (x_X4_readNumber m 4 0 1999).2))
theorem xe_X4_readMinutes : ∃ f, f = y_X4_readMinutes := ⟨y_X4_readMinutes, rfl⟩
noncomputable def x_X4_readMinutes := Classical.choose xe_X4_readMinutes
theorem x_X4_readMinutes_eq : x_X4_readMinutes = y_X4_readMinutes := Classical.choose_spec xe_X4_readMinutes
theorem fw_X4_readMinutes {m : Mem} {r : Nat} {v_r : Int32} {B : Nat} {m0 : Mem} (e_r : v_r = nI r) (hW : PW B m0 m) (hB : B + 0 < 2147483648) (hr : r < 12) : PW (B + 0) m0 (x_X4_readMinutes m r).1 := by
  subst e_r
  rw [x_X4_readMinutes_eq]
  unfold y_X4_readMinutes
  by_cases h12 : (x_X4_readNumber m 4 0 1999).2 = (-1)
  · rw [if_pos h12]
    by_cases h36 : (x_X4_readSign (up3 (x_X4_readNumber m 4 0 1999).1 3 0 r ((x_X4_readNumber m 4 0 1999).1 0 0 3)) 44).2 = (-1)
    · rw [if_pos h36]
      try dsimp only
      exact PW.mono (PW.r (by decide) (fw_X4_readNumber (g := 4) (p2 := (((x_X4_readSign (up3 (x_X4_readNumber m 4 0 1999).1 3 0 r ((x_X4_readNumber m 4 0 1999).1 0 0 3)) 44).1 3 0 r) + 1)) (p3 := 1999) rfl (fw_X4_readSign (p1 := 44) (PW.r (by decide) (fw_X4_readNumber (g := 4) (p2 := 0) (p3 := 1999) rfl hW (by omega) (by omega))) (by omega) (by decide)) (by omega) (by omega))) (by omega)
    · rw [if_neg h36]
      try dsimp only
      exact PW.mono (fw_X4_readSign (p1 := 44) (PW.r (by decide) (fw_X4_readNumber (g := 4) (p2 := 0) (p3 := 1999) rfl hW (by omega) (by omega))) (by omega) (by decide)) (by omega)
  · rw [if_neg h12]
    try dsimp only
    exact PW.mono (fw_X4_readNumber (g := 4) (p2 := 0) (p3 := 1999) rfl hW (by omega) (by omega)) (by omega)
noncomputable def y_X4_readAircraft (m : Mem) (r : Nat) : Mem × Int32 := (if (x_X6_isOutside (x_X4_digitHere m) 1 4) = true then (m, (m 0 0 2)) else (if (x_X6_isOutside (x_X4_digitHere (up3 m 0 0 2 ((m 0 0 2) + 1))) 1 3) = true then ((up3 m 0 0 2 ((m 0 0 2) + 1)), ((up3 m 0 0 2 ((m 0 0 2) + 1)) 0 0 2)) else (if (x_X4_readMinutes (up3 (up3 (up3 m 0 0 2 ((m 0 0 2) + 1)) 0 0 2 (((up3 m 0 0 2 ((m 0 0 2) + 1)) 0 0 2) + 1)) 2 0 r ((10 * (x_X4_digitHere m)) + (x_X4_digitHere (up3 m 0 0 2 ((m 0 0 2) + 1))))) r).2 = (-1) then (if (x_X4_byteHere (up3 (x_X4_readMinutes (up3 (up3 (up3 m 0 0 2 ((m 0 0 2) + 1)) 0 0 2 (((up3 m 0 0 2 ((m 0 0 2) + 1)) 0 0 2) + 1)) 2 0 r ((10 * (x_X4_digitHere m)) + (x_X4_digitHere (up3 m 0 0 2 ((m 0 0 2) + 1))))) r).1 5 0 r 100)) = 112 then (if (x_X4_readNumber (up3 (up3 (x_X4_readMinutes (up3 (up3 (up3 m 0 0 2 ((m 0 0 2) + 1)) 0 0 2 (((up3 m 0 0 2 ((m 0 0 2) + 1)) 0 0 2) + 1)) 2 0 r ((10 * (x_X4_digitHere m)) + (x_X4_digitHere (up3 m 0 0 2 ((m 0 0 2) + 1))))) r).1 5 0 r 100) 0 0 2 (((up3 (x_X4_readMinutes (up3 (up3 (up3 m 0 0 2 ((m 0 0 2) + 1)) 0 0 2 (((up3 m 0 0 2 ((m 0 0 2) + 1)) 0 0 2) + 1)) 2 0 r ((10 * (x_X4_digitHere m)) + (x_X4_digitHere (up3 m 0 0 2 ((m 0 0 2) + 1))))) r).1 5 0 r 100) 0 0 2) + 1)) 3 0 400).2 = (-1) then ((x_X4_readSign (up3 (x_X4_readNumber (up3 (up3 (x_X4_readMinutes (up3 (up3 (up3 m 0 0 2 ((m 0 0 2) + 1)) 0 0 2 (((up3 m 0 0 2 ((m 0 0 2) + 1)) 0 0 2) + 1)) 2 0 r ((10 * (x_X4_digitHere m)) + (x_X4_digitHere (up3 m 0 0 2 ((m 0 0 2) + 1))))) r).1 5 0 r 100) 0 0 2 (((up3 (x_X4_readMinutes (up3 (up3 (up3 m 0 0 2 ((m 0 0 2) + 1)) 0 0 2 (((up3 m 0 0 2 ((m 0 0 2) + 1)) 0 0 2) + 1)) 2 0 r ((10 * (x_X4_digitHere m)) + (x_X4_digitHere (up3 m 0 0 2 ((m 0 0 2) + 1))))) r).1 5 0 r 100) 0 0 2) + 1)) 3 0 400).1 5 0 r ((x_X4_readNumber (up3 (up3 (x_X4_readMinutes (up3 (up3 (up3 m 0 0 2 ((m 0 0 2) + 1)) 0 0 2 (((up3 m 0 0 2 ((m 0 0 2) + 1)) 0 0 2) + 1)) 2 0 r ((10 * (x_X4_digitHere m)) + (x_X4_digitHere (up3 m 0 0 2 ((m 0 0 2) + 1))))) r).1 5 0 r 100) 0 0 2 (((up3 (x_X4_readMinutes (up3 (up3 (up3 m 0 0 2 ((m 0 0 2) + 1)) 0 0 2 (((up3 m 0 0 2 ((m 0 0 2) + 1)) 0 0 2) + 1)) 2 0 r ((10 * (x_X4_digitHere m)) + (x_X4_digitHere (up3 m 0 0 2 ((m 0 0 2) + 1))))) r).1 5 0 r 100) 0 0 2) + 1)) 3 0 400).1 0 0 3)) 59).1, (x_X4_readSign (up3 (x_X4_readNumber (up3 (up3 (x_X4_readMinutes (up3 (up3 (up3 m 0 0 2 ((m 0 0 2) + 1)) 0 0 2 (((up3 m 0 0 2 ((m 0 0 2) + 1)) 0 0 2) + 1)) 2 0 r ((10 * (x_X4_digitHere m)) + (x_X4_digitHere (up3 m 0 0 2 ((m 0 0 2) + 1))))) r).1 5 0 r 100) 0 0 2 (((up3 (x_X4_readMinutes (up3 (up3 (up3 m 0 0 2 ((m 0 0 2) + 1)) 0 0 2 (((up3 m 0 0 2 ((m 0 0 2) + 1)) 0 0 2) + 1)) 2 0 r ((10 * (x_X4_digitHere m)) + (x_X4_digitHere (up3 m 0 0 2 ((m 0 0 2) + 1))))) r).1 5 0 r 100) 0 0 2) + 1)) 3 0 400).1 5 0 r ((x_X4_readNumber (up3 (up3 (x_X4_readMinutes (up3 (up3 (up3 m 0 0 2 ((m 0 0 2) + 1)) 0 0 2 (((up3 m 0 0 2 ((m 0 0 2) + 1)) 0 0 2) + 1)) 2 0 r ((10 * (x_X4_digitHere m)) + (x_X4_digitHere (up3 m 0 0 2 ((m 0 0 2) + 1))))) r).1 5 0 r 100) 0 0 2 (((up3 (x_X4_readMinutes (up3 (up3 (up3 m 0 0 2 ((m 0 0 2) + 1)) 0 0 2 (((up3 m 0 0 2 ((m 0 0 2) + 1)) 0 0 2) + 1)) 2 0 r ((10 * (x_X4_digitHere m)) + (x_X4_digitHere (up3 m 0 0 2 ((m 0 0 2) + 1))))) r).1 5 0 r 100) 0 0 2) + 1)) 3 0 400).1 0 0 3)) 59).2) else ((x_X4_readNumber (up3 (up3 (x_X4_readMinutes (up3 (up3 (up3 m 0 0 2 ((m 0 0 2) + 1)) 0 0 2 (((up3 m 0 0 2 ((m 0 0 2) + 1)) 0 0 2) + 1)) 2 0 r ((10 * (x_X4_digitHere m)) + (x_X4_digitHere (up3 m 0 0 2 ((m 0 0 2) + 1))))) r).1 5 0 r 100) 0 0 2 (((up3 (x_X4_readMinutes (up3 (up3 (up3 m 0 0 2 ((m 0 0 2) + 1)) 0 0 2 (((up3 m 0 0 2 ((m 0 0 2) + 1)) 0 0 2) + 1)) 2 0 r ((10 * (x_X4_digitHere m)) + (x_X4_digitHere (up3 m 0 0 2 ((m 0 0 2) + 1))))) r).1 5 0 r 100) 0 0 2) + 1)) 3 0 400).1, (x_X4_readNumber (up3 (up3 (x_X4_readMinutes (up3 (up3 (up3 m 0 0 2 ((m 0 0 2) + 1)) 0 0 2 (((up3 m 0 0 2 ((m 0 0 2) + 1)) 0 0 2) + 1)) 2 0 r ((10 * (x_X4_digitHere m)) + (x_X4_digitHere (up3 m 0 0 2 ((m 0 0 2) + 1))))) r).1 5 0 r 100) 0 0 2 (((up3 (x_X4_readMinutes (up3 (up3 (up3 m 0 0 2 ((m 0 0 2) + 1)) 0 0 2 (((up3 m 0 0 2 ((m 0 0 2) + 1)) 0 0 2) + 1)) 2 0 r ((10 * (x_X4_digitHere m)) + (x_X4_digitHere (up3 m 0 0 2 ((m 0 0 2) + 1))))) r).1 5 0 r 100) 0 0 2) + 1)) 3 0 400).2)) else ((x_X4_readSign (up3 (x_X4_readMinutes (up3 (up3 (up3 m 0 0 2 ((m 0 0 2) + 1)) 0 0 2 (((up3 m 0 0 2 ((m 0 0 2) + 1)) 0 0 2) + 1)) 2 0 r ((10 * (x_X4_digitHere m)) + (x_X4_digitHere (up3 m 0 0 2 ((m 0 0 2) + 1))))) r).1 5 0 r 100) 59).1, (x_X4_readSign (up3 (x_X4_readMinutes (up3 (up3 (up3 m 0 0 2 ((m 0 0 2) + 1)) 0 0 2 (((up3 m 0 0 2 ((m 0 0 2) + 1)) 0 0 2) + 1)) 2 0 r ((10 * (x_X4_digitHere m)) + (x_X4_digitHere (up3 m 0 0 2 ((m 0 0 2) + 1))))) r).1 5 0 r 100) 59).2)) else ((x_X4_readMinutes (up3 (up3 (up3 m 0 0 2 ((m 0 0 2) + 1)) 0 0 2 (((up3 m 0 0 2 ((m 0 0 2) + 1)) 0 0 2) + 1)) 2 0 r ((10 * (x_X4_digitHere m)) + (x_X4_digitHere (up3 m 0 0 2 ((m 0 0 2) + 1))))) r).1, (x_X4_readMinutes (up3 (up3 (up3 m 0 0 2 ((m 0 0 2) + 1)) 0 0 2 (((up3 m 0 0 2 ((m 0 0 2) + 1)) 0 0 2) + 1)) 2 0 r ((10 * (x_X4_digitHere m)) + (x_X4_digitHere (up3 m 0 0 2 ((m 0 0 2) + 1))))) r).2))))
theorem xe_X4_readAircraft : ∃ f, f = y_X4_readAircraft := ⟨y_X4_readAircraft, rfl⟩
noncomputable def x_X4_readAircraft := Classical.choose xe_X4_readAircraft
theorem x_X4_readAircraft_eq : x_X4_readAircraft = y_X4_readAircraft := Classical.choose_spec xe_X4_readAircraft
theorem fw_X4_readAircraft {m : Mem} {r : Nat} {v_r : Int32} {B : Nat} {m0 : Mem} (e_r : v_r = nI r) (hW : PW B m0 m) (hB : B + 0 < 2147483648) (hr : r < 12) : PW (B + 0) m0 (x_X4_readAircraft m r).1 := by
  subst e_r
  rw [x_X4_readAircraft_eq]
  unfold y_X4_readAircraft
  by_cases h11 : (x_X6_isOutside (x_X4_digitHere m) 1 4) = true
  · rw [if_pos h11]
    try dsimp only
    exact PW.mono hW (by omega)
  · rw [if_neg h11]
    by_cases h40 : (x_X6_isOutside (x_X4_digitHere (up3 m 0 0 2 ((m 0 0 2) + 1))) 1 3) = true
    · rw [if_pos h40]
      try dsimp only
      exact PW.mono (PW.p hW (pw_up hW (out_lt (by decide) h11))) (by omega)
    · rw [if_neg h40]
      by_cases h80 : (x_X4_readMinutes (up3 (up3 (up3 m 0 0 2 ((m 0 0 2) + 1)) 0 0 2 (((up3 m 0 0 2 ((m 0 0 2) + 1)) 0 0 2) + 1)) 2 0 r ((10 * (x_X4_digitHere m)) + (x_X4_digitHere (up3 m 0 0 2 ((m 0 0 2) + 1))))) r).2 = (-1)
      · rw [if_pos h80]
        by_cases h100 : (x_X4_byteHere (up3 (x_X4_readMinutes (up3 (up3 (up3 m 0 0 2 ((m 0 0 2) + 1)) 0 0 2 (((up3 m 0 0 2 ((m 0 0 2) + 1)) 0 0 2) + 1)) 2 0 r ((10 * (x_X4_digitHere m)) + (x_X4_digitHere (up3 m 0 0 2 ((m 0 0 2) + 1))))) r).1 5 0 r 100)) = 112
        · rw [if_pos h100]
          by_cases h127 : (x_X4_readNumber (up3 (up3 (x_X4_readMinutes (up3 (up3 (up3 m 0 0 2 ((m 0 0 2) + 1)) 0 0 2 (((up3 m 0 0 2 ((m 0 0 2) + 1)) 0 0 2) + 1)) 2 0 r ((10 * (x_X4_digitHere m)) + (x_X4_digitHere (up3 m 0 0 2 ((m 0 0 2) + 1))))) r).1 5 0 r 100) 0 0 2 (((up3 (x_X4_readMinutes (up3 (up3 (up3 m 0 0 2 ((m 0 0 2) + 1)) 0 0 2 (((up3 m 0 0 2 ((m 0 0 2) + 1)) 0 0 2) + 1)) 2 0 r ((10 * (x_X4_digitHere m)) + (x_X4_digitHere (up3 m 0 0 2 ((m 0 0 2) + 1))))) r).1 5 0 r 100) 0 0 2) + 1)) 3 0 400).2 = (-1)
          · rw [if_pos h127]
            try dsimp only
            exact PW.mono (fw_X4_readSign (p1 := 59) (PW.r (by decide) (fw_X4_readNumber (g := 3) (p2 := 0) (p3 := 400) rfl (PW.p (PW.r (by decide) (fw_X4_readMinutes (r := r) rfl (PW.r (by decide) (PW.p (PW.p hW (pw_up hW (out_lt (by decide) h11))) (pw_up (PW.p hW (pw_up hW (out_lt (by decide) h11))) (out_lt (by decide) h40)))) (by omega) hr)) (pw_up (PW.r (by decide) (fw_X4_readMinutes (r := r) rfl (PW.r (by decide) (PW.p (PW.p hW (pw_up hW (out_lt (by decide) h11))) (pw_up (PW.p hW (pw_up hW (out_lt (by decide) h11))) (out_lt (by decide) h40)))) (by omega) hr)) (byte_lt (fun q => absurd (h100.symm.trans q) (by decide))))) (by omega) (by omega))) (by omega) (by decide)) (by omega)
          · rw [if_neg h127]
            try dsimp only
            exact PW.mono (fw_X4_readNumber (g := 3) (p2 := 0) (p3 := 400) rfl (PW.p (PW.r (by decide) (fw_X4_readMinutes (r := r) rfl (PW.r (by decide) (PW.p (PW.p hW (pw_up hW (out_lt (by decide) h11))) (pw_up (PW.p hW (pw_up hW (out_lt (by decide) h11))) (out_lt (by decide) h40)))) (by omega) hr)) (pw_up (PW.r (by decide) (fw_X4_readMinutes (r := r) rfl (PW.r (by decide) (PW.p (PW.p hW (pw_up hW (out_lt (by decide) h11))) (pw_up (PW.p hW (pw_up hW (out_lt (by decide) h11))) (out_lt (by decide) h40)))) (by omega) hr)) (byte_lt (fun q => absurd (h100.symm.trans q) (by decide))))) (by omega) (by omega)) (by omega)
        · rw [if_neg h100]
          try dsimp only
          exact PW.mono (fw_X4_readSign (p1 := 59) (PW.r (by decide) (fw_X4_readMinutes (r := r) rfl (PW.r (by decide) (PW.p (PW.p hW (pw_up hW (out_lt (by decide) h11))) (pw_up (PW.p hW (pw_up hW (out_lt (by decide) h11))) (out_lt (by decide) h40)))) (by omega) hr)) (by omega) (by decide)) (by omega)
      · rw [if_neg h80]
        try dsimp only
        exact PW.mono (fw_X4_readMinutes (r := r) rfl (PW.r (by decide) (PW.p (PW.p hW (pw_up hW (out_lt (by decide) h11))) (pw_up (PW.p hW (pw_up hW (out_lt (by decide) h11))) (out_lt (by decide) h40)))) (by omega) hr) (by omega)
noncomputable def y_X4_add (m : Mem) (p1 : Int32) : Mem := (if (m 0 0 0) < 90 then (up3 (up3 m 1 0 (ix (m 0 0 0)) p1) 0 0 0 (((up3 m 1 0 (ix (m 0 0 0)) p1) 0 0 0) + 1)) else m)
theorem xe_X4_add : ∃ f, f = y_X4_add := ⟨y_X4_add, rfl⟩
noncomputable def x_X4_add := Classical.choose xe_X4_add
theorem x_X4_add_eq : x_X4_add = y_X4_add := Classical.choose_spec xe_X4_add
