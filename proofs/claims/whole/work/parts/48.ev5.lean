/-! what keeps the model's indexes in their rows -/
def mok (k : Nat) : Prop := k ≠ 0 ∧ k ≠ 1 ∧ k ≠ 2 ∧ k ≠ 7 ∧ k ≠ 21 ∧ k ≠ 26 ∧ k ≠ 31
def MW (B : Nat) (m0 m : Mem) : Prop := MK m ∧ B = B ∧ ∀ k, k < 3 → m 1 0 k = m0 1 0 k
theorem up3_k {m : Mem} {k k' : Nat} {v : Int32} (h : k' ≠ k) : up3 m 1 0 k v 1 0 k' = m 1 0 k' := up3_ne (fun q => h q.2.2)
theorem MW.mono {B B' : Nat} {m0 m : Mem} (h : MW B m0 m) (_ : B ≤ B') : MW B' m0 m := ⟨h.1, rfl, h.2.2⟩
theorem MW.up {B : Nat} {m0 m : Mem} {k : Nat} {v : Int32} (h : MW B m0 m) (hk : mok k) : MW B m0 (up3 m 1 0 k v) := by
  obtain ⟨k0, k1, k2, k3, k4, k5, k6⟩ := hk
  refine ⟨⟨?_, ?_, ?_, ?_, ?_, ?_, ?_⟩, rfl, fun q hq => ?_⟩
  · rw [up3_k (Ne.symm k0)]; exact h.1.1
  · rw [up3_k (Ne.symm k1)]; exact h.1.2.1
  · rw [up3_k (Ne.symm k2)]; exact h.1.2.2.1
  · rw [up3_k (Ne.symm k3)]; exact h.1.2.2.2.1
  · rw [up3_k (Ne.symm k4)]; exact h.1.2.2.2.2.1
  · rw [up3_k (Ne.symm k5)]; exact h.1.2.2.2.2.2.1
  · rw [up3_k (Ne.symm k6)]; exact h.1.2.2.2.2.2.2
  · rw [up3_k (by omega)]; exact h.2.2 q hq
theorem MW.upo {B : Nat} {m0 m : Mem} {f i k : Nat} {v : Int32} (h : MW B m0 m) (hf : f ≠ 1) : MW B m0 (up3 m f i k v) := by
  have e : ∀ q, up3 m f i k v 1 0 q = m 1 0 q := fun q => up3_ne (fun z => hf z.1.symm)
  refine ⟨?_, rfl, fun q hq => (e q).trans (h.2.2 q hq)⟩
  unfold MK
  simp only [e]
  exact h.1
theorem MW.upE {B : Nat} {m0 m : Mem} {v : Int32} (h : MW B m0 m) (hv : VN 30 v) : MW B m0 (up3 m 1 0 7 v) := by
  refine ⟨⟨?_, ?_, ?_, ?_, ?_, ?_, ?_⟩, rfl, fun q hq => ?_⟩
  · rw [up3_k (by decide)]; exact h.1.1
  · rw [up3_k (by decide)]; exact h.1.2.1
  · rw [up3_k (by decide)]; exact h.1.2.2.1
  · rw [up3_self]; exact hv
  · rw [up3_k (by decide)]; exact h.1.2.2.2.2.1
  · rw [up3_k (by decide)]; exact h.1.2.2.2.2.2.1
  · rw [up3_k (by decide)]; exact h.1.2.2.2.2.2.2
  · rw [up3_k (by omega)]; exact h.2.2 q hq
theorem up3_vx {m : Mem} {t k : Nat} {v : Int32} (hv : VX 12 v) (h : VX 12 (m 1 0 t)) : VX 12 (up3 m 1 0 k v 1 0 t) := by
  by_cases e : t = k
  · subst e
    rw [up3_self]
    exact hv
  · rw [up3_k e]
    exact h
theorem MW.upT {B : Nat} {m0 m : Mem} {t : Nat} {v : Int32} (h : MW B m0 m) (ht : t < 3) (hv : VX 12 v) : MW B m0 (up3 m 1 0 (20 + 5 * t + 1) v) := by
  refine ⟨⟨?_, ?_, ?_, ?_, ?_, ?_, ?_⟩, rfl, fun q hq => ?_⟩
  · rw [up3_k (by omega)]; exact h.1.1
  · rw [up3_k (by omega)]; exact h.1.2.1
  · rw [up3_k (by omega)]; exact h.1.2.2.1
  · rw [up3_k (by omega)]; exact h.1.2.2.2.1
  · exact up3_vx hv h.1.2.2.2.2.1
  · exact up3_vx hv h.1.2.2.2.2.2.1
  · exact up3_vx hv h.1.2.2.2.2.2.2
  · rw [up3_k (by omega)]; exact h.2.2 q hq
theorem MW.cN {B B' : Nat} {m0 m m' : Mem} (h' : MW B' m0 m') (h : MW B m0 m) {k : Nat} (hk : k < 3) : m' 1 0 k = nI (ix (m 1 0 k)) := by
  rw [h'.2.2 k hk, ← h.2.2 k hk]
  match k, hk with
  | 0, _ => exact h.1.ns.1
  | 1, _ => exact h.1.nt.1
  | 2, _ => exact h.1.na.1
theorem MW.same {B B' : Nat} {m0 m m' : Mem} (h' : MW B' m0 m') (h : MW B m0 m) {k : Nat} (hk : k < 3) : m' 1 0 k = m 1 0 k := by rw [h'.2.2 k hk, h.2.2 k hk]
theorem vn_e0 {x : Int32} (h : VN 30 x) : VN 30 (x + 0) := by
  rw [show x + 0 = x by simp]
  exact h
theorem vn_e1 {x : Int32} (h : VN 30 x) (g : x < 30) : VN 30 (x + 1) := by
  have b := h.2
  have l : ix x < 30 := by
    have g2 : nI (ix x) < nI 30 := by rw [← h.1]; exact g
    exact (nI_ltI (by omega) (by decide)).mp g2
  have e : x + 1 = nI (ix x + 1) := by rw [← nI_1, ← h.1]
  unfold VN
  rw [e, ix_nI (by omega)]
  exact ⟨rfl, by omega⟩
noncomputable def bd_X7_tugFor_4 (m : Mem) (q : Nat) (j : Nat) (c2 : Int32) : Int32 := (if (m 1 0 (20 + 5 * j + 0)) < (x_X7_of m q 1) then c2 else (if (m 1 0 (20 + 5 * j + 1)) = (-1) then (if c2 = (-1) then (nI j) else (if (m 1 0 (20 + 5 * j + 0)) < (m 1 0 (20 + 5 * (ix c2) + 0)) then (nI j) else c2)) else c2))
noncomputable def ly_X7_tugFor_4 (m : Mem) (q : Nat) (N : Nat) (c2 : Int32) : Int32 := itr (fun jz s => bd_X7_tugFor_4 m q jz s) N 0 c2
theorem le_X7_tugFor_4 : ∃ f, f = ly_X7_tugFor_4 := ⟨ly_X7_tugFor_4, rfl⟩
noncomputable def lf_X7_tugFor_4 := Classical.choose le_X7_tugFor_4
theorem lf_X7_tugFor_4_eq : lf_X7_tugFor_4 = ly_X7_tugFor_4 := Classical.choose_spec le_X7_tugFor_4
theorem fb_X7_tugFor_4 {m : Mem} {q : Nat} (hF : MK m) (hq : q < 12) {j : Nat} {c2 : Int32} (hjN : j < 3) (hb : VX 3 c2) : (VX 3 (bd_X7_tugFor_4 m q j c2)) := by
  unfold bd_X7_tugFor_4
  by_cases h34 : (m 1 0 (20 + 5 * j + 0)) < (x_X7_of m q 1)
  · rw [if_pos h34]
    exact (by first | assumption | exact VX_nI (by omega) (by decide))
  · rw [if_neg h34]
    by_cases h48 : (m 1 0 (20 + 5 * j + 1)) = (-1)
    · rw [if_pos h48]
      by_cases h65 : c2 = (-1)
      · rw [if_pos h65]
        exact (by first | assumption | exact VX_nI (by omega) (by decide))
      · rw [if_neg h65]
        have b68 : ix c2 < 3 := VX.lt hb h65
        by_cases h80 : (m 1 0 (20 + 5 * j + 0)) < (m 1 0 (20 + 5 * (ix c2) + 0))
        · rw [if_pos h80]
          exact (by first | assumption | exact VX_nI (by omega) (by decide))
        · rw [if_neg h80]
          exact (by first | assumption | exact VX_nI (by omega) (by decide))
    · rw [if_neg h48]
      exact (by first | assumption | exact VX_nI (by omega) (by decide))
theorem fl_X7_tugFor_4 {m : Mem} {q : Nat} {N : Nat} (hF : MK m) (hq : q < 12) {c2 : Int32} (hNc : N ≤ 3) (hb : VX 3 c2) : (VX 3 (lf_X7_tugFor_4 m q N c2)) := by
  rw [lf_X7_tugFor_4_eq]
  unfold ly_X7_tugFor_4
  exact itr_inv (n := N) (s := c2) (P := fun jz s => (VX 3 s)) (fun jz s => bd_X7_tugFor_4 m q jz s) (fun jz s hj hs => fb_X7_tugFor_4 hF hq (j := jz) (c2 := s) (by omega) hs) hb
theorem lp_X7_tugFor_4 {d n c s b : Nat} {M : JM} {o : JO} {hf : JH} {m : Mem} {q : Nat} {N : Nat} (hd : 2 ≤ d) (hF : MK m) (hq : q < 12) (hNc : N ≤ 3) (hN : m 1 0 1 = nI N) : ∀ (k j : Nat) (c2 : Int32), j + k = N → (VX 3 c2) → JV (Ev mtab mcode d) jcX7_tugFor (95, [(0, .ref b), (1, .int (nI q)), (2, .int (itr (fun jz s => bd_X7_tugFor_4 m q jz s) k j c2))], []) (n, c, s, mm b m M) o hf → JV (Ev mtab mcode d) jcX7_tugFor (4, [(0, .ref b), (1, .int (nI q)), (2, .int c2), (3, .int (nI j))], []) (n, c, s, mm b m M) o hf := by
  intro k
  induction k with
  | zero =>
    intro j c2 hj hb hc
    refine JV.ild (p2 := 5) rfl rfl rfl ?_
    refine JV.ald (p2 := 6) rfl rfl rfl ?_
    refine JV.getf (p2 := 9) rfl mm_M rfl rfl ?_
    refine JV.stk (len := 1) (sem := (s_push (.int 1))) (p2 := 10) rfl rfl rfl ?_
    refine JV.iald (p2 := 11) (j := 1) rfl mm_1 rfl (by omega) (by decide) rfl ?_
    refine JV.brT rfl rfl (by rw [hN]; exact nI_le (a := N) (b := j) (by omega) (by omega)) ?_
    exact JV.keep [0, 1, 2] rfl hc
  | succ k ih =>
    intro j c2 hj hb hc
    obtain ⟨s1, hx⟩ : ∃ s1, bd_X7_tugFor_4 m q j c2 = s1 := ⟨_, rfl⟩
    have hc2 : JV (Ev mtab mcode d) jcX7_tugFor (95, [(0, .ref b), (1, .int (nI q)), (2, .int (itr (fun jz s => bd_X7_tugFor_4 m q jz s) k (j + 1) s1))], []) (n, c, s, mm b m M) o hf := by
      subst hx
      exact hc
    clear hc
    have iv := fb_X7_tugFor_4 (m := m) (q := q) hF hq (j := j) (c2 := c2) (by omega) hb
    rw [hx] at iv
    unfold bd_X7_tugFor_4 at hx
    refine JV.ild (p2 := 5) rfl rfl rfl ?_
    refine JV.ald (p2 := 6) rfl rfl rfl ?_
    refine JV.getf (p2 := 9) rfl mm_M rfl rfl ?_
    refine JV.stk (len := 1) (sem := (s_push (.int 1))) (p2 := 10) rfl rfl rfl ?_
    refine JV.iald (p2 := 11) (j := 1) rfl mm_1 rfl (by omega) (by decide) rfl ?_
    refine JV.brF (p2 := 14) rfl rfl rfl (by rw [hN]; exact nI_ge (a := j) (b := N) (by omega) (by omega)) ?_
    refine JV.ald (p2 := 15) rfl rfl rfl ?_
    refine JV.getf (p2 := 18) rfl mm_M rfl rfl ?_
    refine JV.ild (p2 := 19) rfl rfl rfl ?_
    refine JV.stk (len := 1) (sem := (s_push (.int 0))) (p2 := 20) rfl rfl rfl ?_
    refine JV.insI (p2 := 23) rfl (Nat.le_of_ble_eq_true rfl) rfl rfl (Nat.le_of_ble_eq_true rfl) rfl (ev_X7_tugAt (by omega) rfl) rfl ?_
    refine JV.iald (p2 := 24) (j := (20 + 5 * j + 0)) rfl mm_1 (ta_at rfl rfl) (by omega) (by decide) rfl ?_
    refine JV.ist (p2 := 26) rfl rfl rfl ?_
    refine JV.ild (p2 := 28) rfl rfl rfl ?_
    refine JV.ald (p2 := 29) rfl rfl rfl ?_
    refine JV.ild (p2 := 30) rfl rfl rfl ?_
    refine JV.stk (len := 1) (sem := (s_push (.int 1))) (p2 := 31) rfl rfl rfl ?_
    refine JV.invI (p2 := 34) rfl rfl rfl mm_M (Nat.le_of_ble_eq_true rfl) rfl (ev_X7_of (q := q) (w := 1) (by omega) rfl rfl (by omega) (by omega) rfl) ?_
    by_cases h34 : (m 1 0 (20 + 5 * j + 0)) < (x_X7_of m q 1)
    · rw [if_pos h34] at hx
      refine JV.brT rfl rfl h34 ?_
      refine JV.stk (len := 1) (sem := (s_push (.int 0))) (p2 := 56) rfl rfl rfl ?_
      refine JV.ist (p2 := 58) rfl rfl rfl ?_
      refine JV.ild (p2 := 60) rfl rfl rfl ?_
      refine JV.brT rfl rfl (by decide) ?_
      refine JV.ild (p2 := 88) rfl rfl rfl ?_
      refine JV.ist (p2 := 89) rfl rfl rfl ?_
      refine JV.iinc (p2 := 92) rfl rfl (nI_1 _) rfl rfl ?_
      refine JV.goto rfl ?_
      refine JV.keep [0, 1, 2, 3] rfl ?_
      subst hx
      exact ih (j + 1) _ (by omega) iv hc2
    · rw [if_neg h34] at hx
      refine JV.brF (p2 := 37) rfl rfl rfl h34 ?_
      refine JV.ald (p2 := 38) rfl rfl rfl ?_
      refine JV.getf (p2 := 41) rfl mm_M rfl rfl ?_
      refine JV.ild (p2 := 42) rfl rfl rfl ?_
      refine JV.stk (len := 1) (sem := (s_push (.int 1))) (p2 := 43) rfl rfl rfl ?_
      refine JV.insI (p2 := 46) rfl (Nat.le_of_ble_eq_true rfl) rfl rfl (Nat.le_of_ble_eq_true rfl) rfl (ev_X7_tugAt (by omega) rfl) rfl ?_
      refine JV.iald (p2 := 47) (j := (20 + 5 * j + 1)) rfl mm_1 (ta_at rfl rfl) (by omega) (by decide) rfl ?_
      refine JV.stk (len := 1) (sem := (s_push (.int (-1)))) (p2 := 48) rfl rfl rfl ?_
      by_cases h48 : (m 1 0 (20 + 5 * j + 1)) = (-1)
      · rw [if_pos h48] at hx
        refine JV.brF (p2 := 51) rfl rfl rfl (fun e => e h48) ?_
        refine JV.stk (len := 1) (sem := (s_push (.int 1))) (p2 := 52) rfl rfl rfl ?_
        refine JV.goto rfl ?_
        refine JV.ist (p2 := 58) rfl rfl rfl ?_
        refine JV.ild (p2 := 60) rfl rfl rfl ?_
        refine JV.brF (p2 := 63) rfl rfl rfl (by decide) ?_
        refine JV.ild (p2 := 64) rfl rfl rfl ?_
        refine JV.stk (len := 1) (sem := (s_push (.int (-1)))) (p2 := 65) rfl rfl rfl ?_
        by_cases h65 : c2 = (-1)
        · rw [if_pos h65] at hx
          refine JV.brT rfl rfl h65 ?_
          refine JV.ild (p2 := 84) rfl rfl rfl ?_
          refine JV.goto rfl ?_
          refine JV.ist (p2 := 89) rfl rfl rfl ?_
          refine JV.iinc (p2 := 92) rfl rfl (nI_1 _) rfl rfl ?_
          refine JV.goto rfl ?_
          refine JV.keep [0, 1, 2, 3] rfl ?_
          subst hx
          exact ih (j + 1) _ (by omega) iv hc2
        · rw [if_neg h65] at hx
          refine JV.brF (p2 := 68) rfl rfl rfl h65 ?_
          have b68 : ix c2 < 3 := VX.lt hb h65
          refine JV.ild (p2 := 70) rfl rfl rfl ?_
          refine JV.ald (p2 := 71) rfl rfl rfl ?_
          refine JV.getf (p2 := 74) rfl mm_M rfl rfl ?_
          refine JV.ild (p2 := 75) rfl rfl rfl ?_
          refine JV.stk (len := 1) (sem := (s_push (.int 0))) (p2 := 76) rfl rfl rfl ?_
          refine JV.insI (p2 := 79) rfl (Nat.le_of_ble_eq_true rfl) rfl rfl (Nat.le_of_ble_eq_true rfl) rfl (ev_X7_tugAt (by omega) rfl) rfl ?_
          refine JV.iald (p2 := 80) (j := (20 + 5 * (ix c2) + 0)) rfl mm_1 (ta_at (VX.eq hb h65) rfl) (by omega) (by decide) rfl ?_
          by_cases h80 : (m 1 0 (20 + 5 * j + 0)) < (m 1 0 (20 + 5 * (ix c2) + 0))
          · rw [if_pos h80] at hx
            refine JV.brF (p2 := 83) rfl rfl rfl (Int32.not_le.mpr h80) ?_
            refine JV.ild (p2 := 84) rfl rfl rfl ?_
            refine JV.goto rfl ?_
            refine JV.ist (p2 := 89) rfl rfl rfl ?_
            refine JV.iinc (p2 := 92) rfl rfl (nI_1 _) rfl rfl ?_
            refine JV.goto rfl ?_
            refine JV.keep [0, 1, 2, 3] rfl ?_
            subst hx
            exact ih (j + 1) _ (by omega) iv hc2
          · rw [if_neg h80] at hx
            refine JV.brT rfl rfl (Int32.not_lt.mp h80) ?_
            refine JV.ild (p2 := 88) rfl rfl rfl ?_
            refine JV.ist (p2 := 89) rfl rfl rfl ?_
            refine JV.iinc (p2 := 92) rfl rfl (nI_1 _) rfl rfl ?_
            refine JV.goto rfl ?_
            refine JV.keep [0, 1, 2, 3] rfl ?_
            subst hx
            exact ih (j + 1) _ (by omega) iv hc2
      · rw [if_neg h48] at hx
        refine JV.brT rfl rfl h48 ?_
        refine JV.stk (len := 1) (sem := (s_push (.int 0))) (p2 := 56) rfl rfl rfl ?_
        refine JV.ist (p2 := 58) rfl rfl rfl ?_
        refine JV.ild (p2 := 60) rfl rfl rfl ?_
        refine JV.brT rfl rfl (by decide) ?_
        refine JV.ild (p2 := 88) rfl rfl rfl ?_
        refine JV.ist (p2 := 89) rfl rfl rfl ?_
        refine JV.iinc (p2 := 92) rfl rfl (nI_1 _) rfl rfl ?_
        refine JV.goto rfl ?_
        refine JV.keep [0, 1, 2, 3] rfl ?_
        subst hx
        exact ih (j + 1) _ (by omega) iv hc2
theorem lq_X7_tugFor_4 {d n c s b : Nat} {M : JM} {o : JO} {hf : JH} {m : Mem} {q : Nat} {N : Nat} {c2 : Int32} (hd : 2 ≤ d) (hF : MK m) (hq : q < 12) (hNc : N ≤ 3) (hN : m 1 0 1 = nI N) (hb : VX 3 c2) (hc : JV (Ev mtab mcode d) jcX7_tugFor (95, [(0, .ref b), (1, .int (nI q)), (2, .int (lf_X7_tugFor_4 m q N c2))], []) (n, c, s, mm b m M) o hf) : JV (Ev mtab mcode d) jcX7_tugFor (4, [(0, .ref b), (1, .int (nI q)), (2, .int c2), (3, .int 0)], []) (n, c, s, mm b m M) o hf := by
  rw [lf_X7_tugFor_4_eq] at hc
  unfold ly_X7_tugFor_4 at hc
  exact lp_X7_tugFor_4 hd hF hq hNc hN N 0 c2 (by omega) hb hc
noncomputable def y_X7_tugFor (m : Mem) (q : Nat) : Int32 := (lf_X7_tugFor_4 m q (ix (m 1 0 1)) (-1))
theorem xe_X7_tugFor : ∃ f, f = y_X7_tugFor := ⟨y_X7_tugFor, rfl⟩
noncomputable def x_X7_tugFor := Classical.choose xe_X7_tugFor
theorem x_X7_tugFor_eq : x_X7_tugFor = y_X7_tugFor := Classical.choose_spec xe_X7_tugFor
theorem ev_X7_tugFor {d n c s b : Nat} {m : Mem} {M : JM} {q : Nat} {v_q : Int32} {res : Int32} (hd : 3 ≤ d) (e_q : v_q = nI q) (hF : MK m) (hq : q < 12) (hx : x_X7_tugFor m q = res) : Ev mtab mcode d 117 [.ref b, .int v_q] (n, c, s, mm b m M) (.inl (some (.int res))) (n, c, s, mm b m M) := by
  obtain ⟨d, rfl⟩ : ∃ e, d = e + 1 := ⟨d - 1, by omega⟩
  subst e_q
  rw [x_X7_tugFor_eq] at hx
  unfold y_X7_tugFor at hx
  refine jv_mk (m := mX7_tugFor) (cd := jcX7_tugFor) rfl rfl (Nat.le_of_ble_eq_true rfl) trivial ?_
  refine JV.stk (len := 1) (sem := (s_push (.int (-1)))) (p2 := 1) rfl rfl rfl ?_
  refine JV.ist (p2 := 2) rfl rfl rfl ?_
  refine JV.stk (len := 1) (sem := (s_push (.int 0))) (p2 := 3) rfl rfl rfl ?_
  refine JV.ist (p2 := 4) rfl rfl rfl ?_
  refine lq_X7_tugFor_4 (c2 := (-1)) (N := (ix (m 1 0 1))) (m := m) (q := q) (by omega) hF hq hF.nt.2 hF.nt.1 (Or.inl rfl) ?_
  refine JV.ild (p2 := 96) rfl rfl rfl ?_
  subst hx
  exact JV.ret rfl (fun _ => rfl) rfl rfl
theorem vx_X7_tugFor {m : Mem} {q : Nat} (hF : MK m) (hq : q < 12) : VX 3 (x_X7_tugFor m q) := by
  rw [x_X7_tugFor_eq]
  exact fl_X7_tugFor_4 hF hq hF.nt.2 (Or.inl rfl)
noncomputable def y_X7_isPushedFrom (m : Mem) (p1 : Int32) : Bool := (if (x_X7_isStand m p1) = true then (if (x_X7_planeOf m p1) = (-1) then false else (if (x_X7_of m (ix (x_X7_planeOf m p1)) 5) = 4 then true else false)) else false)
theorem xe_X7_isPushedFrom : ∃ f, f = y_X7_isPushedFrom := ⟨y_X7_isPushedFrom, rfl⟩
noncomputable def x_X7_isPushedFrom := Classical.choose xe_X7_isPushedFrom
theorem x_X7_isPushedFrom_eq : x_X7_isPushedFrom = y_X7_isPushedFrom := Classical.choose_spec xe_X7_isPushedFrom
theorem ev_X7_isPushedFrom {d n c s b : Nat} {m : Mem} {M : JM} {p1 : Int32} {res : Bool} (hd : 4 ≤ d) (hF : MK m) (hx : x_X7_isPushedFrom m p1 = res) : Ev mtab mcode d 121 [.ref b, .int p1] (n, c, s, mm b m M) (.inl (some (.int (bI res)))) (n, c, s, mm b m M) := by
  obtain ⟨d, rfl⟩ : ∃ e, d = e + 1 := ⟨d - 1, by omega⟩
  rw [x_X7_isPushedFrom_eq] at hx
  unfold y_X7_isPushedFrom at hx
  refine jv_mk (m := mX7_isPushedFrom) (cd := jcX7_isPushedFrom) rfl rfl (Nat.le_of_ble_eq_true rfl) (bI_or _) ?_
  refine JV.ald (p2 := 1) rfl rfl rfl ?_
  refine JV.ild (p2 := 2) rfl rfl rfl ?_
  refine JV.invI (p2 := 5) rfl rfl rfl mm_M (Nat.le_of_ble_eq_true rfl) rfl (ev_X7_isStand (by omega) rfl) ?_
  by_cases h5 : (x_X7_isStand m p1) = true
  · rw [if_pos h5] at hx
    refine JV.brF (p2 := 8) rfl rfl rfl (bI_t h5) ?_
    refine JV.ald (p2 := 9) rfl rfl rfl ?_
    refine JV.ild (p2 := 10) rfl rfl rfl ?_
    refine JV.invI (p2 := 13) rfl rfl rfl mm_M (Nat.le_of_ble_eq_true rfl) rfl (ev_X7_planeOf (by omega) hF rfl) ?_
    refine JV.goto rfl ?_
    refine JV.ist (p2 := 18) rfl rfl rfl ?_
    refine JV.ild (p2 := 19) rfl rfl rfl ?_
    refine JV.stk (len := 1) (sem := (s_push (.int (-1)))) (p2 := 20) rfl rfl rfl ?_
    by_cases h20 : (x_X7_planeOf m p1) = (-1)
    · rw [if_pos h20] at hx
      refine JV.brT rfl rfl h20 ?_
      refine JV.stk (len := 1) (sem := (s_push (.int 0))) (p2 := 38) rfl rfl rfl ?_
      subst hx
      exact JV.ret rfl (fun _ => rfl) rfl rfl
    · rw [if_neg h20] at hx
      refine JV.brF (p2 := 23) rfl rfl rfl h20 ?_
      have b23 : ix (x_X7_planeOf m p1) < 12 := VX.lt (vx_X7_planeOf hF) h20
      refine JV.ald (p2 := 24) rfl rfl rfl ?_
      refine JV.ild (p2 := 25) rfl rfl rfl ?_
      refine JV.stk (len := 1) (sem := (s_push (.int 5))) (p2 := 26) rfl rfl rfl ?_
      refine JV.invI (p2 := 29) rfl rfl rfl mm_M (Nat.le_of_ble_eq_true rfl) rfl (ev_X7_of (q := (ix (x_X7_planeOf m p1))) (w := 5) (by omega) (VX.eq (vx_X7_planeOf hF) h20) rfl (by omega) (by omega) rfl) ?_
      refine JV.stk (len := 1) (sem := (s_push (.int 4))) (p2 := 30) rfl rfl rfl ?_
      by_cases h30 : (x_X7_of m (ix (x_X7_planeOf m p1)) 5) = 4
      · rw [if_pos h30] at hx
        refine JV.brF (p2 := 33) rfl rfl rfl (fun e => e h30) ?_
        refine JV.stk (len := 1) (sem := (s_push (.int 1))) (p2 := 34) rfl rfl rfl ?_
        refine JV.goto rfl ?_
        subst hx
        exact JV.ret rfl (fun _ => rfl) rfl rfl
      · rw [if_neg h30] at hx
        refine JV.brT rfl rfl h30 ?_
        refine JV.stk (len := 1) (sem := (s_push (.int 0))) (p2 := 38) rfl rfl rfl ?_
        subst hx
        exact JV.ret rfl (fun _ => rfl) rfl rfl
  · rw [if_neg h5] at hx
    refine JV.brT rfl rfl (bI_f h5) ?_
    refine JV.stk (len := 1) (sem := (s_push (.int (-1)))) (p2 := 17) rfl rfl rfl ?_
    refine JV.ist (p2 := 18) rfl rfl rfl ?_
    refine JV.ild (p2 := 19) rfl rfl rfl ?_
    refine JV.stk (len := 1) (sem := (s_push (.int (-1)))) (p2 := 20) rfl rfl rfl ?_
    refine JV.brT rfl rfl (by decide) ?_
    refine JV.stk (len := 1) (sem := (s_push (.int 0))) (p2 := 38) rfl rfl rfl ?_
    subst hx
    exact JV.ret rfl (fun _ => rfl) rfl rfl
noncomputable def y_X7_whyNot (m : Mem) (q : Nat) : Int32 := (if (x_X7_of m q 5) = 0 then 1 else (if (x_X7_of m q 5) = 3 then 2 else (if (x_X7_of m q 5) = 4 then 3 else (if (x_X7_of m q 5) = 5 then 3 else (if (m 1 0 3) < (x_X7_of m q 3) then 4 else (if (x_X7_isCurfew m) = true then 5 else (if (x_X7_of m q 5) = 1 then (if (x_X7_isPushedFrom m ((x_X7_of m q 6) - 1)) = true then 6 else (if (x_X7_isPushedFrom m ((x_X7_of m q 6) + 1)) = true then 6 else (if (x_X7_tugFor m q) = (-1) then 7 else 0))) else (if (x_X7_tugFor m q) = (-1) then 7 else 0))))))))
theorem xe_X7_whyNot : ∃ f, f = y_X7_whyNot := ⟨y_X7_whyNot, rfl⟩
noncomputable def x_X7_whyNot := Classical.choose xe_X7_whyNot
theorem x_X7_whyNot_eq : x_X7_whyNot = y_X7_whyNot := Classical.choose_spec xe_X7_whyNot
theorem ev_X7_whyNot {d n c s b : Nat} {m : Mem} {M : JM} {q : Nat} {v_q : Int32} {res : Int32} (hd : 5 ≤ d) (e_q : v_q = nI q) (hF : MK m) (hq : q < 12) (hx : x_X7_whyNot m q = res) : Ev mtab mcode d 122 [.ref b, .int v_q] (n, c, s, mm b m M) (.inl (some (.int res))) (n, c, s, mm b m M) := by
  obtain ⟨d, rfl⟩ : ∃ e, d = e + 1 := ⟨d - 1, by omega⟩
  subst e_q
  rw [x_X7_whyNot_eq] at hx
  unfold y_X7_whyNot at hx
  refine jv_mk (m := mX7_whyNot) (cd := jcX7_whyNot) rfl rfl (Nat.le_of_ble_eq_true rfl) trivial ?_
  refine JV.ald (p2 := 1) rfl rfl rfl ?_
  refine JV.ild (p2 := 2) rfl rfl rfl ?_
  refine JV.stk (len := 1) (sem := (s_push (.int 5))) (p2 := 3) rfl rfl rfl ?_
  refine JV.invI (p2 := 6) rfl rfl rfl mm_M (Nat.le_of_ble_eq_true rfl) rfl (ev_X7_of (q := q) (w := 5) (by omega) rfl rfl (by omega) (by omega) rfl) ?_
  by_cases h6_0 : (x_X7_of m q 5) = 0
  · rw [if_pos h6_0] at hx
    refine JV.sw rfl (by rw [h6_0]) ?_
    refine JV.stk (len := 1) (sem := (s_push (.int 1))) (p2 := 45) rfl rfl rfl ?_
    subst hx
    exact JV.ret rfl (fun _ => rfl) rfl rfl
  rw [if_neg h6_0] at hx
  by_cases h6_3 : (x_X7_of m q 5) = 3
  · rw [if_pos h6_3] at hx
    refine JV.sw rfl (by rw [h6_3]) ?_
    refine JV.stk (len := 1) (sem := (s_push (.int 2))) (p2 := 47) rfl rfl rfl ?_
    subst hx
    exact JV.ret rfl (fun _ => rfl) rfl rfl
  rw [if_neg h6_3] at hx
  by_cases h6_4 : (x_X7_of m q 5) = 4
  · rw [if_pos h6_4] at hx
    refine JV.sw rfl (by rw [h6_4]) ?_
    refine JV.stk (len := 1) (sem := (s_push (.int 3))) (p2 := 49) rfl rfl rfl ?_
    subst hx
    exact JV.ret rfl (fun _ => rfl) rfl rfl
  rw [if_neg h6_4] at hx
  by_cases h6_5 : (x_X7_of m q 5) = 5
  · rw [if_pos h6_5] at hx
    refine JV.sw rfl (by rw [h6_5]) ?_
    refine JV.stk (len := 1) (sem := (s_push (.int 3))) (p2 := 49) rfl rfl rfl ?_
    subst hx
    exact JV.ret rfl (fun _ => rfl) rfl rfl
  rw [if_neg h6_5] at hx
  refine JV.sw rfl (sw_out (fun i hi => match i, hi with | 0, _ => Or.inl h6_0 | 1, _ => Or.inr rfl | 2, _ => Or.inr rfl | 3, _ => Or.inl h6_3 | 4, _ => Or.inl h6_4 | 5, _ => Or.inl h6_5 | (n + 6), hi => absurd hi (by simp))) ?_
  refine JV.ald (p2 := 51) rfl rfl rfl ?_
  refine JV.ild (p2 := 52) rfl rfl rfl ?_
  refine JV.stk (len := 1) (sem := (s_push (.int 3))) (p2 := 53) rfl rfl rfl ?_
  refine JV.invI (p2 := 56) rfl rfl rfl mm_M (Nat.le_of_ble_eq_true rfl) rfl (ev_X7_of (q := q) (w := 3) (by omega) rfl rfl (by omega) (by omega) rfl) ?_
  refine JV.ald (p2 := 57) rfl rfl rfl ?_
  refine JV.getf (p2 := 60) rfl mm_M rfl rfl ?_
  refine JV.stk (len := 1) (sem := (s_push (.int 3))) (p2 := 61) rfl rfl rfl ?_
  refine JV.iald (p2 := 62) (j := 3) rfl mm_1 rfl (by omega) (by decide) rfl ?_
  by_cases h62 : (m 1 0 3) < (x_X7_of m q 3)
  · rw [if_pos h62] at hx
    refine JV.brF (p2 := 65) rfl rfl rfl (Int32.not_le.mpr h62) ?_
    refine JV.stk (len := 1) (sem := (s_push (.int 4))) (p2 := 66) rfl rfl rfl ?_
    subst hx
    exact JV.ret rfl (fun _ => rfl) rfl rfl
  · rw [if_neg h62] at hx
    refine JV.brT rfl rfl (Int32.not_lt.mp h62) ?_
    refine JV.ald (p2 := 68) rfl rfl rfl ?_
    refine JV.invI (p2 := 71) rfl rfl rfl mm_M (Nat.le_of_ble_eq_true rfl) rfl (ev_X7_isCurfew (by omega) rfl) ?_
    by_cases h71 : (x_X7_isCurfew m) = true
    · rw [if_pos h71] at hx
      refine JV.brF (p2 := 74) rfl rfl rfl (bI_t h71) ?_
      refine JV.stk (len := 1) (sem := (s_push (.int 5))) (p2 := 75) rfl rfl rfl ?_
      subst hx
      exact JV.ret rfl (fun _ => rfl) rfl rfl
    · rw [if_neg h71] at hx
      refine JV.brT rfl rfl (bI_f h71) ?_
      refine JV.ald (p2 := 77) rfl rfl rfl ?_
      refine JV.ild (p2 := 78) rfl rfl rfl ?_
      refine JV.stk (len := 2) (sem := (s_push (.int 6))) (p2 := 80) rfl rfl rfl ?_
      refine JV.invI (p2 := 83) rfl rfl rfl mm_M (Nat.le_of_ble_eq_true rfl) rfl (ev_X7_of (q := q) (w := 6) (by omega) rfl rfl (by omega) (by omega) rfl) ?_
      refine JV.ist (p2 := 84) rfl rfl rfl ?_
      refine JV.ald (p2 := 85) rfl rfl rfl ?_
      refine JV.ild (p2 := 86) rfl rfl rfl ?_
      refine JV.stk (len := 1) (sem := (s_push (.int 5))) (p2 := 87) rfl rfl rfl ?_
      refine JV.invI (p2 := 90) rfl rfl rfl mm_M (Nat.le_of_ble_eq_true rfl) rfl (ev_X7_of (q := q) (w := 5) (by omega) rfl rfl (by omega) (by omega) rfl) ?_
      refine JV.stk (len := 1) (sem := (s_push (.int 1))) (p2 := 91) rfl rfl rfl ?_
      by_cases h91 : (x_X7_of m q 5) = 1
      · rw [if_pos h91] at hx
        refine JV.brF (p2 := 94) rfl rfl rfl (fun e => e h91) ?_
        refine JV.ald (p2 := 95) rfl rfl rfl ?_
        refine JV.ild (p2 := 96) rfl rfl rfl ?_
        refine JV.stk (len := 1) (sem := (s_push (.int 1))) (p2 := 97) rfl rfl rfl ?_
        refine JV.stk (len := 1) (sem := s_isub) (p2 := 98) rfl rfl rfl ?_
        refine JV.invI (p2 := 101) rfl rfl rfl mm_M (Nat.le_of_ble_eq_true rfl) rfl (ev_X7_isPushedFrom (by omega) hF rfl) ?_
        by_cases h101 : (x_X7_isPushedFrom m ((x_X7_of m q 6) - 1)) = true
        · rw [if_pos h101] at hx
          refine JV.brT rfl rfl (bI_t h101) ?_
          refine JV.stk (len := 2) (sem := (s_push (.int 6))) (p2 := 116) rfl rfl rfl ?_
          subst hx
          exact JV.ret rfl (fun _ => rfl) rfl rfl
        · rw [if_neg h101] at hx
          refine JV.brF (p2 := 104) rfl rfl rfl (fun e => e (bI_f h101)) ?_
          refine JV.ald (p2 := 105) rfl rfl rfl ?_
          refine JV.ild (p2 := 106) rfl rfl rfl ?_
          refine JV.stk (len := 1) (sem := (s_push (.int 1))) (p2 := 107) rfl rfl rfl ?_
          refine JV.stk (len := 1) (sem := s_iadd) (p2 := 108) rfl rfl rfl ?_
          refine JV.invI (p2 := 111) rfl rfl rfl mm_M (Nat.le_of_ble_eq_true rfl) rfl (ev_X7_isPushedFrom (by omega) hF rfl) ?_
          by_cases h111 : (x_X7_isPushedFrom m ((x_X7_of m q 6) + 1)) = true
          · rw [if_pos h111] at hx
            refine JV.brF (p2 := 114) rfl rfl rfl (bI_t h111) ?_
            refine JV.stk (len := 2) (sem := (s_push (.int 6))) (p2 := 116) rfl rfl rfl ?_
            subst hx
            exact JV.ret rfl (fun _ => rfl) rfl rfl
          · rw [if_neg h111] at hx
            refine JV.brT rfl rfl (bI_f h111) ?_
            refine JV.ald (p2 := 118) rfl rfl rfl ?_
            refine JV.ild (p2 := 119) rfl rfl rfl ?_
            refine JV.invI (p2 := 122) rfl rfl rfl mm_M (Nat.le_of_ble_eq_true rfl) rfl (ev_X7_tugFor (q := q) (by omega) rfl hF (by omega) rfl) ?_
            refine JV.stk (len := 1) (sem := (s_push (.int (-1)))) (p2 := 123) rfl rfl rfl ?_
            by_cases h123 : (x_X7_tugFor m q) = (-1)
            · rw [if_pos h123] at hx
              refine JV.brF (p2 := 126) rfl rfl rfl (fun e => e h123) ?_
              refine JV.stk (len := 2) (sem := (s_push (.int 7))) (p2 := 128) rfl rfl rfl ?_
              refine JV.goto rfl ?_
              subst hx
              exact JV.ret rfl (fun _ => rfl) rfl rfl
            · rw [if_neg h123] at hx
              refine JV.brT rfl rfl h123 ?_
              refine JV.stk (len := 1) (sem := (s_push (.int 0))) (p2 := 132) rfl rfl rfl ?_
              subst hx
              exact JV.ret rfl (fun _ => rfl) rfl rfl
      · rw [if_neg h91] at hx
        refine JV.brT rfl rfl h91 ?_
        refine JV.ald (p2 := 118) rfl rfl rfl ?_
        refine JV.ild (p2 := 119) rfl rfl rfl ?_
        refine JV.invI (p2 := 122) rfl rfl rfl mm_M (Nat.le_of_ble_eq_true rfl) rfl (ev_X7_tugFor (q := q) (by omega) rfl hF (by omega) rfl) ?_
        refine JV.stk (len := 1) (sem := (s_push (.int (-1)))) (p2 := 123) rfl rfl rfl ?_
        by_cases h123 : (x_X7_tugFor m q) = (-1)
        · rw [if_pos h123] at hx
          refine JV.brF (p2 := 126) rfl rfl rfl (fun e => e h123) ?_
          refine JV.stk (len := 2) (sem := (s_push (.int 7))) (p2 := 128) rfl rfl rfl ?_
          refine JV.goto rfl ?_
          subst hx
          exact JV.ret rfl (fun _ => rfl) rfl rfl
        · rw [if_neg h123] at hx
          refine JV.brT rfl rfl h123 ?_
          refine JV.stk (len := 1) (sem := (s_push (.int 0))) (p2 := 132) rfl rfl rfl ?_
          subst hx
          exact JV.ret rfl (fun _ => rfl) rfl rfl
noncomputable def bd_X7_delays_4 (m : Mem) (w1 : Int32) (j : Nat) (c2 : Int32) : Int32 := (if (x_X7_of m j 7) = (-1) then (if w1 = 0 then (c2 + 0) else (if c2 < 0 then 0 else c2)) else (if w1 = 0 then (c2 + (x_X7_of m j 7)) else (if c2 < (x_X7_of m j 7) then (x_X7_of m j 7) else c2)))
noncomputable def ly_X7_delays_4 (m : Mem) (w1 : Int32) (N : Nat) (c2 : Int32) : Int32 := itr (fun jz s => bd_X7_delays_4 m w1 jz s) N 0 c2
theorem le_X7_delays_4 : ∃ f, f = ly_X7_delays_4 := ⟨ly_X7_delays_4, rfl⟩
noncomputable def lf_X7_delays_4 := Classical.choose le_X7_delays_4
theorem lf_X7_delays_4_eq : lf_X7_delays_4 = ly_X7_delays_4 := Classical.choose_spec le_X7_delays_4
theorem lp_X7_delays_4 {d n c s b : Nat} {M : JM} {o : JO} {hf : JH} {m : Mem} {w1 : Int32} {N : Nat} (hd : 2 ≤ d) (hNc : N ≤ 12) (hN : m 1 0 2 = nI N) : ∀ (k j : Nat) (c2 : Int32), j + k = N → JV (Ev mtab mcode d) jcX7_delays (68, [(0, .ref b), (1, .int w1), (2, .int (itr (fun jz s => bd_X7_delays_4 m w1 jz s) k j c2))], []) (n, c, s, mm b m M) o hf → JV (Ev mtab mcode d) jcX7_delays (4, [(0, .ref b), (1, .int w1), (2, .int c2), (3, .int (nI j))], []) (n, c, s, mm b m M) o hf := by
  intro k
  induction k with
  | zero =>
    intro j c2 hj hc
    refine JV.ild (p2 := 5) rfl rfl rfl ?_
    refine JV.ald (p2 := 6) rfl rfl rfl ?_
    refine JV.getf (p2 := 9) rfl mm_M rfl rfl ?_
    refine JV.stk (len := 1) (sem := (s_push (.int 2))) (p2 := 10) rfl rfl rfl ?_
    refine JV.iald (p2 := 11) (j := 2) rfl mm_1 rfl (by omega) (by decide) rfl ?_
    refine JV.brT rfl rfl (by rw [hN]; exact nI_le (a := N) (b := j) (by omega) (by omega)) ?_
    exact JV.keep [0, 1, 2] rfl hc
  | succ k ih =>
    intro j c2 hj hc
    obtain ⟨s1, hx⟩ : ∃ s1, bd_X7_delays_4 m w1 j c2 = s1 := ⟨_, rfl⟩
    have hc2 : JV (Ev mtab mcode d) jcX7_delays (68, [(0, .ref b), (1, .int w1), (2, .int (itr (fun jz s => bd_X7_delays_4 m w1 jz s) k (j + 1) s1))], []) (n, c, s, mm b m M) o hf := by
      subst hx
      exact hc
    clear hc
    unfold bd_X7_delays_4 at hx
    refine JV.ild (p2 := 5) rfl rfl rfl ?_
    refine JV.ald (p2 := 6) rfl rfl rfl ?_
    refine JV.getf (p2 := 9) rfl mm_M rfl rfl ?_
    refine JV.stk (len := 1) (sem := (s_push (.int 2))) (p2 := 10) rfl rfl rfl ?_
    refine JV.iald (p2 := 11) (j := 2) rfl mm_1 rfl (by omega) (by decide) rfl ?_
    refine JV.brF (p2 := 14) rfl rfl rfl (by rw [hN]; exact nI_ge (a := j) (b := N) (by omega) (by omega)) ?_
    refine JV.ald (p2 := 15) rfl rfl rfl ?_
    refine JV.ild (p2 := 16) rfl rfl rfl ?_
    refine JV.stk (len := 2) (sem := (s_push (.int 7))) (p2 := 18) rfl rfl rfl ?_
    refine JV.invI (p2 := 21) rfl rfl rfl mm_M (Nat.le_of_ble_eq_true rfl) rfl (ev_X7_of (q := j) (w := 7) (by omega) rfl rfl (by omega) (by omega) rfl) ?_
    refine JV.stk (len := 1) (sem := (s_push (.int (-1)))) (p2 := 22) rfl rfl rfl ?_
    by_cases h22 : (x_X7_of m j 7) = (-1)
    · rw [if_pos h22] at hx
      refine JV.brF (p2 := 25) rfl rfl rfl (fun e => e h22) ?_
      refine JV.stk (len := 1) (sem := (s_push (.int 0))) (p2 := 26) rfl rfl rfl ?_
      refine JV.goto rfl ?_
      refine JV.ist (p2 := 38) rfl rfl rfl ?_
      refine JV.ild (p2 := 39) rfl rfl rfl ?_
      by_cases h39 : w1 = 0
      · rw [if_pos h39] at hx
        refine JV.brF (p2 := 42) rfl rfl rfl (fun e => e h39) ?_
        refine JV.ild (p2 := 43) rfl rfl rfl ?_
        refine JV.ild (p2 := 45) rfl rfl rfl ?_
        refine JV.stk (len := 1) (sem := s_iadd) (p2 := 46) rfl rfl rfl ?_
        refine JV.goto rfl ?_
        refine JV.ist (p2 := 62) rfl rfl rfl ?_
        refine JV.iinc (p2 := 65) rfl rfl (nI_1 _) rfl rfl ?_
        refine JV.goto rfl ?_
        refine JV.keep [0, 1, 2, 3] rfl ?_
        subst hx
        exact ih (j + 1) _ (by omega) hc2
      · rw [if_neg h39] at hx
        refine JV.brT rfl rfl h39 ?_
        refine JV.ild (p2 := 51) rfl rfl rfl ?_
        refine JV.ild (p2 := 52) rfl rfl rfl ?_
        by_cases h52 : c2 < 0
        · rw [if_pos h52] at hx
          refine JV.brF (p2 := 55) rfl rfl rfl (Int32.not_le.mpr h52) ?_
          refine JV.ild (p2 := 57) rfl rfl rfl ?_
          refine JV.goto rfl ?_
          refine JV.ist (p2 := 62) rfl rfl rfl ?_
          refine JV.iinc (p2 := 65) rfl rfl (nI_1 _) rfl rfl ?_
          refine JV.goto rfl ?_
          refine JV.keep [0, 1, 2, 3] rfl ?_
          subst hx
          exact ih (j + 1) _ (by omega) hc2
        · rw [if_neg h52] at hx
          refine JV.brT rfl rfl (Int32.not_lt.mp h52) ?_
          refine JV.ild (p2 := 61) rfl rfl rfl ?_
          refine JV.ist (p2 := 62) rfl rfl rfl ?_
          refine JV.iinc (p2 := 65) rfl rfl (nI_1 _) rfl rfl ?_
          refine JV.goto rfl ?_
          refine JV.keep [0, 1, 2, 3] rfl ?_
          subst hx
          exact ih (j + 1) _ (by omega) hc2
    · rw [if_neg h22] at hx
      refine JV.brT rfl rfl h22 ?_
      refine JV.ald (p2 := 30) rfl rfl rfl ?_
      refine JV.ild (p2 := 31) rfl rfl rfl ?_
      refine JV.stk (len := 2) (sem := (s_push (.int 7))) (p2 := 33) rfl rfl rfl ?_
      refine JV.invI (p2 := 36) rfl rfl rfl mm_M (Nat.le_of_ble_eq_true rfl) rfl (ev_X7_of (q := j) (w := 7) (by omega) rfl rfl (by omega) (by omega) rfl) ?_
      refine JV.ist (p2 := 38) rfl rfl rfl ?_
      refine JV.ild (p2 := 39) rfl rfl rfl ?_
      by_cases h39 : w1 = 0
      · rw [if_pos h39] at hx
        refine JV.brF (p2 := 42) rfl rfl rfl (fun e => e h39) ?_
        refine JV.ild (p2 := 43) rfl rfl rfl ?_
        refine JV.ild (p2 := 45) rfl rfl rfl ?_
        refine JV.stk (len := 1) (sem := s_iadd) (p2 := 46) rfl rfl rfl ?_
        refine JV.goto rfl ?_
        refine JV.ist (p2 := 62) rfl rfl rfl ?_
        refine JV.iinc (p2 := 65) rfl rfl (nI_1 _) rfl rfl ?_
        refine JV.goto rfl ?_
        refine JV.keep [0, 1, 2, 3] rfl ?_
        subst hx
        exact ih (j + 1) _ (by omega) hc2
      · rw [if_neg h39] at hx
        refine JV.brT rfl rfl h39 ?_
        refine JV.ild (p2 := 51) rfl rfl rfl ?_
        refine JV.ild (p2 := 52) rfl rfl rfl ?_
        by_cases h52 : c2 < (x_X7_of m j 7)
        · rw [if_pos h52] at hx
          refine JV.brF (p2 := 55) rfl rfl rfl (Int32.not_le.mpr h52) ?_
          refine JV.ild (p2 := 57) rfl rfl rfl ?_
          refine JV.goto rfl ?_
          refine JV.ist (p2 := 62) rfl rfl rfl ?_
          refine JV.iinc (p2 := 65) rfl rfl (nI_1 _) rfl rfl ?_
          refine JV.goto rfl ?_
          refine JV.keep [0, 1, 2, 3] rfl ?_
          subst hx
          exact ih (j + 1) _ (by omega) hc2
        · rw [if_neg h52] at hx
          refine JV.brT rfl rfl (Int32.not_lt.mp h52) ?_
          refine JV.ild (p2 := 61) rfl rfl rfl ?_
          refine JV.ist (p2 := 62) rfl rfl rfl ?_
          refine JV.iinc (p2 := 65) rfl rfl (nI_1 _) rfl rfl ?_
          refine JV.goto rfl ?_
          refine JV.keep [0, 1, 2, 3] rfl ?_
          subst hx
          exact ih (j + 1) _ (by omega) hc2
theorem lq_X7_delays_4 {d n c s b : Nat} {M : JM} {o : JO} {hf : JH} {m : Mem} {w1 : Int32} {N : Nat} {c2 : Int32} (hd : 2 ≤ d) (hNc : N ≤ 12) (hN : m 1 0 2 = nI N)  (hc : JV (Ev mtab mcode d) jcX7_delays (68, [(0, .ref b), (1, .int w1), (2, .int (lf_X7_delays_4 m w1 N c2))], []) (n, c, s, mm b m M) o hf) : JV (Ev mtab mcode d) jcX7_delays (4, [(0, .ref b), (1, .int w1), (2, .int c2), (3, .int 0)], []) (n, c, s, mm b m M) o hf := by
  rw [lf_X7_delays_4_eq] at hc
  unfold ly_X7_delays_4 at hc
  exact lp_X7_delays_4 hd hNc hN N 0 c2 (by omega) hc
noncomputable def y_X7_delays (m : Mem) (p1 : Int32) : Int32 := (lf_X7_delays_4 m p1 (ix (m 1 0 2)) 0)
theorem xe_X7_delays : ∃ f, f = y_X7_delays := ⟨y_X7_delays, rfl⟩
noncomputable def x_X7_delays := Classical.choose xe_X7_delays
theorem x_X7_delays_eq : x_X7_delays = y_X7_delays := Classical.choose_spec xe_X7_delays
theorem ev_X7_delays {d n c s b : Nat} {m : Mem} {M : JM} {p1 : Int32} {res : Int32} (hd : 3 ≤ d) (hF : MK m) (hx : x_X7_delays m p1 = res) : Ev mtab mcode d 134 [.ref b, .int p1] (n, c, s, mm b m M) (.inl (some (.int res))) (n, c, s, mm b m M) := by
  obtain ⟨d, rfl⟩ : ∃ e, d = e + 1 := ⟨d - 1, by omega⟩
  rw [x_X7_delays_eq] at hx
  unfold y_X7_delays at hx
  refine jv_mk (m := mX7_delays) (cd := jcX7_delays) rfl rfl (Nat.le_of_ble_eq_true rfl) trivial ?_
  refine JV.stk (len := 1) (sem := (s_push (.int 0))) (p2 := 1) rfl rfl rfl ?_
  refine JV.ist (p2 := 2) rfl rfl rfl ?_
  refine JV.stk (len := 1) (sem := (s_push (.int 0))) (p2 := 3) rfl rfl rfl ?_
  refine JV.ist (p2 := 4) rfl rfl rfl ?_
  refine lq_X7_delays_4 (c2 := 0) (N := (ix (m 1 0 2))) (m := m) (w1 := p1) (by omega) hF.na.2 hF.na.1 ?_
  refine JV.ild (p2 := 69) rfl rfl rfl ?_
  subst hx
  exact JV.ret rfl (fun _ => rfl) rfl rfl
noncomputable def y_X7_standOf (m : Mem) (q : Nat) (p2 : Int32) : Int32 := (if p2 = 0 then (m 1 0 (8 + 2 * q + 0)) else (if p2 = 1 then (x_X7_planeOf m (nI q)) else (if p2 = 2 then (if (x_X7_isPushedFrom m (nI q)) = true then 1 else 0) else (m 1 0 (8 + 2 * q + 1)))))
theorem xe_X7_standOf : ∃ f, f = y_X7_standOf := ⟨y_X7_standOf, rfl⟩
noncomputable def x_X7_standOf := Classical.choose xe_X7_standOf
theorem x_X7_standOf_eq : x_X7_standOf = y_X7_standOf := Classical.choose_spec xe_X7_standOf
theorem ev_X7_standOf {d n c s b : Nat} {m : Mem} {M : JM} {q : Nat} {v_q : Int32} {p2 : Int32} {res : Int32} (hd : 5 ≤ d) (e_q : v_q = nI q) (hF : MK m) (hq : q < 6) (hx : x_X7_standOf m q p2 = res) : Ev mtab mcode d 131 [.ref b, .int v_q, .int p2] (n, c, s, mm b m M) (.inl (some (.int res))) (n, c, s, mm b m M) := by
  obtain ⟨d, rfl⟩ : ∃ e, d = e + 1 := ⟨d - 1, by omega⟩
  subst e_q
  rw [x_X7_standOf_eq] at hx
  unfold y_X7_standOf at hx
  refine jv_mk (m := mX7_standOf) (cd := jcX7_standOf) rfl rfl (Nat.le_of_ble_eq_true rfl) trivial ?_
  refine JV.ild (p2 := 1) rfl rfl rfl ?_
  by_cases h1_0 : p2 = 0
  · rw [if_pos h1_0] at hx
    refine JV.sw rfl (by rw [h1_0]) ?_
    refine JV.ald (p2 := 29) rfl rfl rfl ?_
    refine JV.getf (p2 := 32) rfl mm_M rfl rfl ?_
    refine JV.ild (p2 := 33) rfl rfl rfl ?_
    refine JV.stk (len := 1) (sem := (s_push (.int 0))) (p2 := 34) rfl rfl rfl ?_
    refine JV.insI (p2 := 37) rfl (Nat.le_of_ble_eq_true rfl) rfl rfl (Nat.le_of_ble_eq_true rfl) rfl (ev_X7_standAt (by omega) rfl) rfl ?_
    refine JV.iald (p2 := 38) (j := (8 + 2 * q + 0)) rfl mm_1 (sa_at rfl rfl) (by omega) (by decide) rfl ?_
    subst hx
    exact JV.ret rfl (fun _ => rfl) rfl rfl
  rw [if_neg h1_0] at hx
  by_cases h1_1 : p2 = 1
  · rw [if_pos h1_1] at hx
    refine JV.sw rfl (by rw [h1_1]) ?_
    refine JV.ald (p2 := 40) rfl rfl rfl ?_
    refine JV.ild (p2 := 41) rfl rfl rfl ?_
    refine JV.invI (p2 := 44) rfl rfl rfl mm_M (Nat.le_of_ble_eq_true rfl) rfl (ev_X7_planeOf (by omega) hF rfl) ?_
    subst hx
    exact JV.ret rfl (fun _ => rfl) rfl rfl
  rw [if_neg h1_1] at hx
  by_cases h1_2 : p2 = 2
  · rw [if_pos h1_2] at hx
    refine JV.sw rfl (by rw [h1_2]) ?_
    refine JV.ald (p2 := 46) rfl rfl rfl ?_
    refine JV.ild (p2 := 47) rfl rfl rfl ?_
    refine JV.invI (p2 := 50) rfl rfl rfl mm_M (Nat.le_of_ble_eq_true rfl) rfl (ev_X7_isPushedFrom (by omega) hF rfl) ?_
    by_cases h50 : (x_X7_isPushedFrom m (nI q)) = true
    · rw [if_pos h50] at hx
      refine JV.brF (p2 := 53) rfl rfl rfl (bI_t h50) ?_
      refine JV.stk (len := 1) (sem := (s_push (.int 1))) (p2 := 54) rfl rfl rfl ?_
      refine JV.goto rfl ?_
      subst hx
      exact JV.ret rfl (fun _ => rfl) rfl rfl
    · rw [if_neg h50] at hx
      refine JV.brT rfl rfl (bI_f h50) ?_
      refine JV.stk (len := 1) (sem := (s_push (.int 0))) (p2 := 58) rfl rfl rfl ?_
      subst hx
      exact JV.ret rfl (fun _ => rfl) rfl rfl
  rw [if_neg h1_2] at hx
  refine JV.sw rfl (sw_out (fun i hi => match i, hi with | 0, _ => Or.inl h1_0 | 1, _ => Or.inl h1_1 | 2, _ => Or.inl h1_2 | (n + 3), hi => absurd hi (by simp))) ?_
  refine JV.ald (p2 := 60) rfl rfl rfl ?_
  refine JV.getf (p2 := 63) rfl mm_M rfl rfl ?_
  refine JV.ild (p2 := 64) rfl rfl rfl ?_
  refine JV.stk (len := 1) (sem := (s_push (.int 1))) (p2 := 65) rfl rfl rfl ?_
  refine JV.insI (p2 := 68) rfl (Nat.le_of_ble_eq_true rfl) rfl rfl (Nat.le_of_ble_eq_true rfl) rfl (ev_X7_standAt (by omega) rfl) rfl ?_
  refine JV.iald (p2 := 69) (j := (8 + 2 * q + 1)) rfl mm_1 (sa_at rfl rfl) (by omega) (by decide) rfl ?_
  subst hx
  exact JV.ret rfl (fun _ => rfl) rfl rfl
noncomputable def y_X7_valueOf (m : Mem) (w : Nat) : Int32 := (if (nI w) = 6 then (x_X7_inState m ((nI w) - 6)) else (if (nI w) = 7 then (x_X7_inState m ((nI w) - 6)) else (if (nI w) = 8 then (x_X7_inState m ((nI w) - 6)) else (if (nI w) = 9 then (x_X7_inState m ((nI w) - 6)) else (if (nI w) = 10 then (x_X7_inState m ((nI w) - 6)) else (if (nI w) = 11 then (x_X7_inState m ((nI w) - 6)) else (if (nI w) = 12 then (if (nI w) = 13 then (x_X7_delays m 1) else (x_X7_delays m 0)) else (if (nI w) = 13 then (if (nI w) = 13 then (x_X7_delays m 1) else (x_X7_delays m 0)) else (if (nI w) = 14 then (m 1 0 6) else (if (nI w) = 15 then (m 1 0 7) else (m 1 0 w)))))))))))
theorem xe_X7_valueOf : ∃ f, f = y_X7_valueOf := ⟨y_X7_valueOf, rfl⟩
noncomputable def x_X7_valueOf := Classical.choose xe_X7_valueOf
theorem x_X7_valueOf_eq : x_X7_valueOf = y_X7_valueOf := Classical.choose_spec xe_X7_valueOf
theorem ev_X7_valueOf {d n c s b : Nat} {m : Mem} {M : JM} {w : Nat} {v_w : Int32} {res : Int32} (hd : 4 ≤ d) (e_w : v_w = nI w) (hF : MK m) (hw : w < 16) (hx : x_X7_valueOf m w = res) : Ev mtab mcode d 135 [.ref b, .int v_w] (n, c, s, mm b m M) (.inl (some (.int res))) (n, c, s, mm b m M) := by
  obtain ⟨d, rfl⟩ : ∃ e, d = e + 1 := ⟨d - 1, by omega⟩
  subst e_w
  rw [x_X7_valueOf_eq] at hx
  unfold y_X7_valueOf at hx
  refine jv_mk (m := mX7_valueOf) (cd := jcX7_valueOf) rfl rfl (Nat.le_of_ble_eq_true rfl) trivial ?_
  refine JV.ild (p2 := 1) rfl rfl rfl ?_
  by_cases h1_6 : (nI w) = 6
  · rw [if_pos h1_6] at hx
    refine JV.sw rfl (by rw [h1_6]) ?_
    refine JV.ald (p2 := 57) rfl rfl rfl ?_
    refine JV.ild (p2 := 58) rfl rfl rfl ?_
    refine JV.stk (len := 2) (sem := (s_push (.int 6))) (p2 := 60) rfl rfl rfl ?_
    refine JV.stk (len := 1) (sem := s_isub) (p2 := 61) rfl rfl rfl ?_
    refine JV.invI (p2 := 64) rfl rfl rfl mm_M (Nat.le_of_ble_eq_true rfl) rfl (ev_X7_inState (by omega) hF rfl) ?_
    subst hx
    exact JV.ret rfl (fun _ => rfl) rfl rfl
  rw [if_neg h1_6] at hx
  by_cases h1_7 : (nI w) = 7
  · rw [if_pos h1_7] at hx
    refine JV.sw rfl (by rw [h1_7]) ?_
    refine JV.ald (p2 := 57) rfl rfl rfl ?_
    refine JV.ild (p2 := 58) rfl rfl rfl ?_
    refine JV.stk (len := 2) (sem := (s_push (.int 6))) (p2 := 60) rfl rfl rfl ?_
    refine JV.stk (len := 1) (sem := s_isub) (p2 := 61) rfl rfl rfl ?_
    refine JV.invI (p2 := 64) rfl rfl rfl mm_M (Nat.le_of_ble_eq_true rfl) rfl (ev_X7_inState (by omega) hF rfl) ?_
    subst hx
    exact JV.ret rfl (fun _ => rfl) rfl rfl
  rw [if_neg h1_7] at hx
  by_cases h1_8 : (nI w) = 8
  · rw [if_pos h1_8] at hx
    refine JV.sw rfl (by rw [h1_8]) ?_
    refine JV.ald (p2 := 57) rfl rfl rfl ?_
    refine JV.ild (p2 := 58) rfl rfl rfl ?_
    refine JV.stk (len := 2) (sem := (s_push (.int 6))) (p2 := 60) rfl rfl rfl ?_
    refine JV.stk (len := 1) (sem := s_isub) (p2 := 61) rfl rfl rfl ?_
    refine JV.invI (p2 := 64) rfl rfl rfl mm_M (Nat.le_of_ble_eq_true rfl) rfl (ev_X7_inState (by omega) hF rfl) ?_
    subst hx
    exact JV.ret rfl (fun _ => rfl) rfl rfl
  rw [if_neg h1_8] at hx
  by_cases h1_9 : (nI w) = 9
  · rw [if_pos h1_9] at hx
    refine JV.sw rfl (by rw [h1_9]) ?_
    refine JV.ald (p2 := 57) rfl rfl rfl ?_
    refine JV.ild (p2 := 58) rfl rfl rfl ?_
    refine JV.stk (len := 2) (sem := (s_push (.int 6))) (p2 := 60) rfl rfl rfl ?_
    refine JV.stk (len := 1) (sem := s_isub) (p2 := 61) rfl rfl rfl ?_
    refine JV.invI (p2 := 64) rfl rfl rfl mm_M (Nat.le_of_ble_eq_true rfl) rfl (ev_X7_inState (by omega) hF rfl) ?_
    subst hx
    exact JV.ret rfl (fun _ => rfl) rfl rfl
  rw [if_neg h1_9] at hx
  by_cases h1_10 : (nI w) = 10
  · rw [if_pos h1_10] at hx
    refine JV.sw rfl (by rw [h1_10]) ?_
    refine JV.ald (p2 := 57) rfl rfl rfl ?_
    refine JV.ild (p2 := 58) rfl rfl rfl ?_
    refine JV.stk (len := 2) (sem := (s_push (.int 6))) (p2 := 60) rfl rfl rfl ?_
    refine JV.stk (len := 1) (sem := s_isub) (p2 := 61) rfl rfl rfl ?_
    refine JV.invI (p2 := 64) rfl rfl rfl mm_M (Nat.le_of_ble_eq_true rfl) rfl (ev_X7_inState (by omega) hF rfl) ?_
    subst hx
    exact JV.ret rfl (fun _ => rfl) rfl rfl
  rw [if_neg h1_10] at hx
  by_cases h1_11 : (nI w) = 11
  · rw [if_pos h1_11] at hx
    refine JV.sw rfl (by rw [h1_11]) ?_
    refine JV.ald (p2 := 57) rfl rfl rfl ?_
    refine JV.ild (p2 := 58) rfl rfl rfl ?_
    refine JV.stk (len := 2) (sem := (s_push (.int 6))) (p2 := 60) rfl rfl rfl ?_
    refine JV.stk (len := 1) (sem := s_isub) (p2 := 61) rfl rfl rfl ?_
    refine JV.invI (p2 := 64) rfl rfl rfl mm_M (Nat.le_of_ble_eq_true rfl) rfl (ev_X7_inState (by omega) hF rfl) ?_
    subst hx
    exact JV.ret rfl (fun _ => rfl) rfl rfl
  rw [if_neg h1_11] at hx
  by_cases h1_12 : (nI w) = 12
  · rw [if_pos h1_12] at hx
    refine JV.sw rfl (by rw [h1_12]) ?_
    refine JV.ald (p2 := 66) rfl rfl rfl ?_
    refine JV.ild (p2 := 67) rfl rfl rfl ?_
    refine JV.stk (len := 2) (sem := (s_push (.int 13))) (p2 := 69) rfl rfl rfl ?_
    by_cases h69 : (nI w) = 13
    · rw [if_pos h69] at hx
      refine JV.brF (p2 := 72) rfl rfl rfl (fun e => e h69) ?_
      refine JV.stk (len := 1) (sem := (s_push (.int 1))) (p2 := 73) rfl rfl rfl ?_
      refine JV.goto rfl ?_
      refine JV.invI (p2 := 80) rfl rfl rfl mm_M (Nat.le_of_ble_eq_true rfl) rfl (ev_X7_delays (by omega) hF rfl) ?_
      subst hx
      exact JV.ret rfl (fun _ => rfl) rfl rfl
    · rw [if_neg h69] at hx
      refine JV.brT rfl rfl h69 ?_
      refine JV.stk (len := 1) (sem := (s_push (.int 0))) (p2 := 77) rfl rfl rfl ?_
      refine JV.invI (p2 := 80) rfl rfl rfl mm_M (Nat.le_of_ble_eq_true rfl) rfl (ev_X7_delays (by omega) hF rfl) ?_
      subst hx
      exact JV.ret rfl (fun _ => rfl) rfl rfl
  rw [if_neg h1_12] at hx
  by_cases h1_13 : (nI w) = 13
  · rw [if_pos h1_13] at hx
    refine JV.sw rfl (by rw [h1_13]) ?_
    refine JV.ald (p2 := 66) rfl rfl rfl ?_
    refine JV.ild (p2 := 67) rfl rfl rfl ?_
    refine JV.stk (len := 2) (sem := (s_push (.int 13))) (p2 := 69) rfl rfl rfl ?_
    by_cases h69 : (nI w) = 13
    · rw [if_pos h69] at hx
      refine JV.brF (p2 := 72) rfl rfl rfl (fun e => e h69) ?_
      refine JV.stk (len := 1) (sem := (s_push (.int 1))) (p2 := 73) rfl rfl rfl ?_
      refine JV.goto rfl ?_
      refine JV.invI (p2 := 80) rfl rfl rfl mm_M (Nat.le_of_ble_eq_true rfl) rfl (ev_X7_delays (by omega) hF rfl) ?_
      subst hx
      exact JV.ret rfl (fun _ => rfl) rfl rfl
    · rw [if_neg h69] at hx
      refine JV.brT rfl rfl h69 ?_
      refine JV.stk (len := 1) (sem := (s_push (.int 0))) (p2 := 77) rfl rfl rfl ?_
      refine JV.invI (p2 := 80) rfl rfl rfl mm_M (Nat.le_of_ble_eq_true rfl) rfl (ev_X7_delays (by omega) hF rfl) ?_
      subst hx
      exact JV.ret rfl (fun _ => rfl) rfl rfl
  rw [if_neg h1_13] at hx
  by_cases h1_14 : (nI w) = 14
  · rw [if_pos h1_14] at hx
    refine JV.sw rfl (by rw [h1_14]) ?_
    refine JV.ald (p2 := 82) rfl rfl rfl ?_
    refine JV.getf (p2 := 85) rfl mm_M rfl rfl ?_
    refine JV.stk (len := 2) (sem := (s_push (.int 6))) (p2 := 87) rfl rfl rfl ?_
    refine JV.iald (p2 := 88) (j := 6) rfl mm_1 rfl (by omega) (by decide) rfl ?_
    subst hx
    exact JV.ret rfl (fun _ => rfl) rfl rfl
  rw [if_neg h1_14] at hx
  by_cases h1_15 : (nI w) = 15
  · rw [if_pos h1_15] at hx
    refine JV.sw rfl (by rw [h1_15]) ?_
    refine JV.ald (p2 := 90) rfl rfl rfl ?_
    refine JV.getf (p2 := 93) rfl mm_M rfl rfl ?_
    refine JV.stk (len := 2) (sem := (s_push (.int 7))) (p2 := 95) rfl rfl rfl ?_
    refine JV.iald (p2 := 96) (j := 7) rfl mm_1 rfl (by omega) (by decide) rfl ?_
    subst hx
    exact JV.ret rfl (fun _ => rfl) rfl rfl
  rw [if_neg h1_15] at hx
  refine JV.sw rfl (sw_out (fun i hi => match i, hi with | 0, _ => Or.inr rfl | 1, _ => Or.inr rfl | 2, _ => Or.inr rfl | 3, _ => Or.inr rfl | 4, _ => Or.inr rfl | 5, _ => Or.inr rfl | 6, _ => Or.inl h1_6 | 7, _ => Or.inl h1_7 | 8, _ => Or.inl h1_8 | 9, _ => Or.inl h1_9 | 10, _ => Or.inl h1_10 | 11, _ => Or.inl h1_11 | 12, _ => Or.inl h1_12 | 13, _ => Or.inl h1_13 | 14, _ => Or.inl h1_14 | 15, _ => Or.inl h1_15 | (n + 16), hi => absurd hi (by simp))) ?_
  refine JV.ald (p2 := 98) rfl rfl rfl ?_
  refine JV.getf (p2 := 101) rfl mm_M rfl rfl ?_
  refine JV.ild (p2 := 102) rfl rfl rfl ?_
  refine JV.iald (p2 := 103) (j := w) rfl mm_1 rfl (by omega) (by decide) rfl ?_
  subst hx
  exact JV.ret rfl (fun _ => rfl) rfl rfl
noncomputable def bd_X7_writes_3 (w1 : Int32) (w2 : Int32) (j : Nat) (m : Mem) : Mem := (up3 m 1 0 (155 + (89 - j)) (m 1 0 ((155 + (89 - j)) - 3)))
noncomputable def ly_X7_writes_3 (w1 : Int32) (w2 : Int32) (N : Nat) (m : Mem) : Mem := itr (fun jz s => bd_X7_writes_3 w1 w2 jz s) N 0 m
theorem le_X7_writes_3 : ∃ f, f = ly_X7_writes_3 := ⟨ly_X7_writes_3, rfl⟩
noncomputable def lf_X7_writes_3 := Classical.choose le_X7_writes_3
theorem lf_X7_writes_3_eq : lf_X7_writes_3 = ly_X7_writes_3 := Classical.choose_spec le_X7_writes_3
theorem fb_X7_writes_3 {B : Nat} {m0 : Mem} {w1 : Int32} {w2 : Int32} (hB : B + 0 < 2147483648) {j : Nat} {m : Mem} (hjN : j < 87) (hW : MW (B + 0 * j) m0 m) : (MW (B + 0 * (j + 1)) m0 (bd_X7_writes_3 w1 w2 j m)) := by
  unfold bd_X7_writes_3
  exact (MW.mono (MW.up hW (by unfold mok; omega)) (by omega))
theorem fl_X7_writes_3 {B : Nat} {m0 : Mem} {w1 : Int32} {w2 : Int32} (hB : B + 0 < 2147483648) {m : Mem} {N : Nat} (hNl : N = 87) (hW : MW (B + 0 * 0) m0 m) : (MW (B + 0 * N) m0 (lf_X7_writes_3 w1 w2 N m)) := by
  rw [lf_X7_writes_3_eq]
  unfold ly_X7_writes_3
  exact itr_inv (n := N) (s := m) (P := fun jz s => (MW (B + 0 * jz) m0 s)) (fun jz s => bd_X7_writes_3 w1 w2 jz s) (fun jz s hj hs => fb_X7_writes_3 (B := B) (m0 := m0) hB (j := jz) (m := s) (by omega) hs) hW
theorem lp_X7_writes_3 {d n c s b : Nat} {M : JM} {o : JO} {hf : JH} {B : Nat} {m0 : Mem} {w1 : Int32} {w2 : Int32} (hd : 0 ≤ d) (hB : B + 0 < 2147483648) : ∀ (k j : Nat) (m : Mem), j + k = 87 → (MW (B + 0 * j) m0 m) → JV (Ev mtab mcode d) jcX7_writes (36, [(0, .ref b), (1, .int w1), (2, .int w2)], []) (n, c, s, mm b (itr (fun jz s => bd_X7_writes_3 w1 w2 jz s) k j m) M) o hf → JV (Ev mtab mcode d) jcX7_writes (3, [(0, .ref b), (1, .int w1), (2, .int w2), (3, .int (nI (89 - j)))], []) (n, c, s, mm b m M) o hf := by
  intro k
  induction k with
  | zero =>
    intro j m hj hW hc
    refine JV.ild (p2 := 4) rfl rfl rfl ?_
    refine JV.stk (len := 1) (sem := (s_push (.int 3))) (p2 := 5) rfl rfl rfl ?_
    refine JV.brT rfl rfl (by exact nI_lt (a := 89 - j) (b := 3) (by omega) (by omega)) ?_
    exact JV.keep [0, 1, 2] rfl hc
  | succ k ih =>
    intro j m hj hW hc
    obtain ⟨s1, hx⟩ : ∃ s1, bd_X7_writes_3 w1 w2 j m = s1 := ⟨_, rfl⟩
    have hc2 : JV (Ev mtab mcode d) jcX7_writes (36, [(0, .ref b), (1, .int w1), (2, .int w2)], []) (n, c, s, mm b (itr (fun jz s => bd_X7_writes_3 w1 w2 jz s) k (j + 1) s1) M) o hf := by
      subst hx
      exact hc
    clear hc
    have iv := fb_X7_writes_3 (B := B) (m0 := m0) (w1 := w1) (w2 := w2) hB (j := j) (m := m) (by omega) hW
    rw [hx] at iv
    unfold bd_X7_writes_3 at hx
    refine JV.ild (p2 := 4) rfl rfl rfl ?_
    refine JV.stk (len := 1) (sem := (s_push (.int 3))) (p2 := 5) rfl rfl rfl ?_
    refine JV.brF (p2 := 8) rfl rfl rfl (by exact nI_nlt (a := 89 - j) (b := 3) (by omega) (by omega)) ?_
    refine JV.ald (p2 := 9) rfl rfl rfl ?_
    refine JV.getf (p2 := 12) rfl mm_M rfl rfl ?_
    refine JV.stk (len := 3) (sem := (s_push (.int 155))) (p2 := 15) rfl rfl rfl ?_
    refine JV.ild (p2 := 16) rfl rfl rfl ?_
    refine JV.stk (len := 1) (sem := s_iadd) (p2 := 17) rfl rfl rfl ?_
    refine JV.ald (p2 := 18) rfl rfl rfl ?_
    refine JV.getf (p2 := 21) rfl mm_M rfl rfl ?_
    refine JV.stk (len := 3) (sem := (s_push (.int 155))) (p2 := 24) rfl rfl rfl ?_
    refine JV.ild (p2 := 25) rfl rfl rfl ?_
    refine JV.stk (len := 1) (sem := s_iadd) (p2 := 26) rfl rfl rfl ?_
    refine JV.stk (len := 1) (sem := (s_push (.int 3))) (p2 := 27) rfl rfl rfl ?_
    refine JV.stk (len := 1) (sem := s_isub) (p2 := 28) rfl rfl rfl ?_
    refine JV.iald (p2 := 29) (j := ((155 + (89 - j)) - 3)) rfl mm_1 (nI_subE (nI_addE rfl rfl) rfl (by omega)) (by omega) (by decide) rfl ?_
    refine JV.iast (p2 := 30) (j := (155 + (89 - j))) rfl mm_1 (nI_addE rfl rfl) (by omega) (by decide) (mm_w1 (k := (155 + (89 - j))) rfl) rfl ?_
    refine JV.iinc (p2 := 33) rfl rfl (nI_dec (by omega)) rfl rfl ?_
    refine JV.goto rfl ?_
    subst hx
    exact ih (j + 1) _ (by omega) iv hc2
theorem lq_X7_writes_3 {d n c s b : Nat} {M : JM} {o : JO} {hf : JH} {B : Nat} {m0 : Mem} {w1 : Int32} {w2 : Int32} {m : Mem} (hd : 0 ≤ d) (hB : B + 0 < 2147483648) (hW : MW (B + 0 * 0) m0 m) (hc : JV (Ev mtab mcode d) jcX7_writes (36, [(0, .ref b), (1, .int w1), (2, .int w2)], []) (n, c, s, mm b (lf_X7_writes_3 w1 w2 87 m) M) o hf) : JV (Ev mtab mcode d) jcX7_writes (3, [(0, .ref b), (1, .int w1), (2, .int w2), (3, .int 89)], []) (n, c, s, mm b m M) o hf := by
  rw [lf_X7_writes_3_eq] at hc
  unfold ly_X7_writes_3 at hc
  exact lp_X7_writes_3 (B := B) (m0 := m0) hd hB 87 0 m (by omega) hW hc
noncomputable def y_X7_writes (m : Mem) (p1 : Int32) (p2 : Int32) : Mem := (if ((up3 (up3 (up3 (lf_X7_writes_3 p1 p2 87 m) 1 0 155 p1) 1 0 156 ((up3 (lf_X7_writes_3 p1 p2 87 m) 1 0 155 p1) 1 0 3)) 1 0 157 p2) 1 0 7) < 30 then (up3 (up3 (up3 (up3 (lf_X7_writes_3 p1 p2 87 m) 1 0 155 p1) 1 0 156 ((up3 (lf_X7_writes_3 p1 p2 87 m) 1 0 155 p1) 1 0 3)) 1 0 157 p2) 1 0 7 (((up3 (up3 (up3 (lf_X7_writes_3 p1 p2 87 m) 1 0 155 p1) 1 0 156 ((up3 (lf_X7_writes_3 p1 p2 87 m) 1 0 155 p1) 1 0 3)) 1 0 157 p2) 1 0 7) + 1)) else (up3 (up3 (up3 (up3 (lf_X7_writes_3 p1 p2 87 m) 1 0 155 p1) 1 0 156 ((up3 (lf_X7_writes_3 p1 p2 87 m) 1 0 155 p1) 1 0 3)) 1 0 157 p2) 1 0 7 (((up3 (up3 (up3 (lf_X7_writes_3 p1 p2 87 m) 1 0 155 p1) 1 0 156 ((up3 (lf_X7_writes_3 p1 p2 87 m) 1 0 155 p1) 1 0 3)) 1 0 157 p2) 1 0 7) + 0)))
theorem xe_X7_writes : ∃ f, f = y_X7_writes := ⟨y_X7_writes, rfl⟩
noncomputable def x_X7_writes := Classical.choose xe_X7_writes
theorem x_X7_writes_eq : x_X7_writes = y_X7_writes := Classical.choose_spec xe_X7_writes
theorem ev_X7_writes {d n c s b : Nat} {m : Mem} {M : JM} {p1 : Int32} {p2 : Int32} {B : Nat} {m0 : Mem} {res : Mem} (hd : 1 ≤ d) (hW : MW B m0 m) (hB : B + 0 < 2147483648) (hx : x_X7_writes m p1 p2 = res) : Ev mtab mcode d 113 [.ref b, .int p1, .int p2] (n, c, s, mm b m M) (.inl none) (n, c, s, mm b res M) := by
  obtain ⟨d, rfl⟩ : ∃ e, d = e + 1 := ⟨d - 1, by omega⟩
  rw [x_X7_writes_eq] at hx
  unfold y_X7_writes at hx
  refine jv_mk (m := mX7_writes) (cd := jcX7_writes) rfl rfl (Nat.le_of_ble_eq_true rfl) trivial ?_
  refine JV.stk (len := 2) (sem := (s_push (.int 89))) (p2 := 2) rfl rfl rfl ?_
  refine JV.ist (p2 := 3) rfl rfl rfl ?_
  refine lq_X7_writes_3 (m := m) (w1 := p1) (w2 := p2) (B := B) (m0 := m0) (by omega) (by omega) (MW.mono hW (by omega)) ?_
  refine JV.ald (p2 := 37) rfl rfl rfl ?_
  refine JV.getf (p2 := 40) rfl mm_M rfl rfl ?_
  refine JV.stk (len := 3) (sem := (s_push (.int 155))) (p2 := 43) rfl rfl rfl ?_
  refine JV.ild (p2 := 44) rfl rfl rfl ?_
  refine JV.iast (p2 := 45) (j := 155) rfl mm_1 rfl (by omega) (by decide) (mm_w1 (k := 155) rfl) rfl ?_
  refine JV.ald (p2 := 46) rfl rfl rfl ?_
  refine JV.getf (p2 := 49) rfl mm_M rfl rfl ?_
  refine JV.stk (len := 3) (sem := (s_push (.int 156))) (p2 := 52) rfl rfl rfl ?_
  refine JV.ald (p2 := 53) rfl rfl rfl ?_
  refine JV.getf (p2 := 56) rfl mm_M rfl rfl ?_
  refine JV.stk (len := 1) (sem := (s_push (.int 3))) (p2 := 57) rfl rfl rfl ?_
  refine JV.iald (p2 := 58) (j := 3) rfl mm_1 rfl (by omega) (by decide) rfl ?_
  refine JV.iast (p2 := 59) (j := 156) rfl mm_1 rfl (by omega) (by decide) (mm_w1 (k := 156) rfl) rfl ?_
  refine JV.ald (p2 := 60) rfl rfl rfl ?_
  refine JV.getf (p2 := 63) rfl mm_M rfl rfl ?_
  refine JV.stk (len := 3) (sem := (s_push (.int 157))) (p2 := 66) rfl rfl rfl ?_
  refine JV.ild (p2 := 67) rfl rfl rfl ?_
  refine JV.iast (p2 := 68) (j := 157) rfl mm_1 rfl (by omega) (by decide) (mm_w1 (k := 157) rfl) rfl ?_
  refine JV.ald (p2 := 69) rfl rfl rfl ?_
  refine JV.getf (p2 := 72) rfl mm_M rfl rfl ?_
  refine JV.stk (len := 2) (sem := (s_push (.int 7))) (p2 := 74) rfl rfl rfl ?_
  refine JV.stk (len := 1) (sem := s_dup2) (p2 := 75) rfl rfl rfl ?_
  refine JV.iald (p2 := 76) (j := 7) rfl mm_1 rfl (by omega) (by decide) rfl ?_
  refine JV.ald (p2 := 77) rfl rfl rfl ?_
  refine JV.getf (p2 := 80) rfl mm_M rfl rfl ?_
  refine JV.stk (len := 2) (sem := (s_push (.int 7))) (p2 := 82) rfl rfl rfl ?_
  refine JV.iald (p2 := 83) (j := 7) rfl mm_1 rfl (by omega) (by decide) rfl ?_
  refine JV.stk (len := 2) (sem := (s_push (.int 30))) (p2 := 85) rfl rfl rfl ?_
  by_cases h85 : ((up3 (up3 (up3 (lf_X7_writes_3 p1 p2 87 m) 1 0 155 p1) 1 0 156 ((up3 (lf_X7_writes_3 p1 p2 87 m) 1 0 155 p1) 1 0 3)) 1 0 157 p2) 1 0 7) < 30
  · rw [if_pos h85] at hx
    refine JV.brF (p2 := 88) rfl rfl rfl (Int32.not_le.mpr h85) ?_
    refine JV.stk (len := 1) (sem := (s_push (.int 1))) (p2 := 89) rfl rfl rfl ?_
    refine JV.goto rfl ?_
    refine JV.stk (len := 1) (sem := s_iadd) (p2 := 94) rfl rfl rfl ?_
    refine JV.iast (p2 := 95) (j := 7) rfl mm_1 rfl (by omega) (by decide) (mm_w1 (k := 7) rfl) rfl ?_
    subst hx
    exact JV.ret rfl (fun _ => rfl) rfl rfl
  · rw [if_neg h85] at hx
    refine JV.brT rfl rfl (Int32.not_lt.mp h85) ?_
    refine JV.stk (len := 1) (sem := (s_push (.int 0))) (p2 := 93) rfl rfl rfl ?_
    refine JV.stk (len := 1) (sem := s_iadd) (p2 := 94) rfl rfl rfl ?_
    refine JV.iast (p2 := 95) (j := 7) rfl mm_1 rfl (by omega) (by decide) (mm_w1 (k := 7) rfl) rfl ?_
    subst hx
    exact JV.ret rfl (fun _ => rfl) rfl rfl
theorem fw_X7_writes {m : Mem} {p1 : Int32} {p2 : Int32} {B : Nat} {m0 : Mem} (hW : MW B m0 m) (hB : B + 0 < 2147483648) : MW (B + 0) m0 (x_X7_writes m p1 p2) := by
  rw [x_X7_writes_eq]
  unfold y_X7_writes
  by_cases h85 : ((up3 (up3 (up3 (lf_X7_writes_3 p1 p2 87 m) 1 0 155 p1) 1 0 156 ((up3 (lf_X7_writes_3 p1 p2 87 m) 1 0 155 p1) 1 0 3)) 1 0 157 p2) 1 0 7) < 30
  · rw [if_pos h85]
    exact MW.mono (MW.upE (MW.up (MW.up (MW.up (MW.mono (fl_X7_writes_3 (m := m) (w1 := p1) (w2 := p2) (B := B) (m0 := m0) (by omega) (N := 87) rfl (MW.mono hW (by omega))) (B' := B + 0) (by omega)) (by unfold mok; omega)) (by unfold mok; omega)) (by unfold mok; omega)) (by first | exact vn_e1 (MW.up (MW.up (MW.up (MW.mono (fl_X7_writes_3 (m := m) (w1 := p1) (w2 := p2) (B := B) (m0 := m0) (by omega) (N := 87) rfl (MW.mono hW (by omega))) (B' := B + 0) (by omega)) (by unfold mok; omega)) (by unfold mok; omega)) (by unfold mok; omega)).1.ev h85 | exact vn_e0 (MW.up (MW.up (MW.up (MW.mono (fl_X7_writes_3 (m := m) (w1 := p1) (w2 := p2) (B := B) (m0 := m0) (by omega) (N := 87) rfl (MW.mono hW (by omega))) (B' := B + 0) (by omega)) (by unfold mok; omega)) (by unfold mok; omega)) (by unfold mok; omega)).1.ev)) (by omega)
  · rw [if_neg h85]
    exact MW.mono (MW.upE (MW.up (MW.up (MW.up (MW.mono (fl_X7_writes_3 (m := m) (w1 := p1) (w2 := p2) (B := B) (m0 := m0) (by omega) (N := 87) rfl (MW.mono hW (by omega))) (B' := B + 0) (by omega)) (by unfold mok; omega)) (by unfold mok; omega)) (by unfold mok; omega)) (by first | exact vn_e1 (MW.up (MW.up (MW.up (MW.mono (fl_X7_writes_3 (m := m) (w1 := p1) (w2 := p2) (B := B) (m0 := m0) (by omega) (N := 87) rfl (MW.mono hW (by omega))) (B' := B + 0) (by omega)) (by unfold mok; omega)) (by unfold mok; omega)) (by unfold mok; omega)).1.ev h85 | exact vn_e0 (MW.up (MW.up (MW.up (MW.mono (fl_X7_writes_3 (m := m) (w1 := p1) (w2 := p2) (B := B) (m0 := m0) (by omega) (N := 87) rfl (MW.mono hW (by omega))) (B' := B + 0) (by omega)) (by unfold mok; omega)) (by unfold mok; omega)) (by unfold mok; omega)).1.ev)) (by omega)
noncomputable def y_X7_buses (m : Mem) (q : Nat) : Mem := (up3 (up3 m 1 0 (35 + 10 * q + 9) ((m 1 0 (35 + 10 * q + 9)) + (((x_X7_of m q 4) + 49) / 50))) 1 0 6 (((up3 m 1 0 (35 + 10 * q + 9) ((m 1 0 (35 + 10 * q + 9)) + (((x_X7_of m q 4) + 49) / 50))) 1 0 6) + (((x_X7_of m q 4) + 49) / 50)))
theorem xe_X7_buses : ∃ f, f = y_X7_buses := ⟨y_X7_buses, rfl⟩
noncomputable def x_X7_buses := Classical.choose xe_X7_buses
theorem x_X7_buses_eq : x_X7_buses = y_X7_buses := Classical.choose_spec xe_X7_buses
theorem ev_X7_buses {d n c s b : Nat} {m : Mem} {M : JM} {q : Nat} {v_q : Int32} {B : Nat} {m0 : Mem} {res : Mem} (hd : 3 ≤ d) (e_q : v_q = nI q) (hW : MW B m0 m) (hB : B + 0 < 2147483648) (hq : q < 12) (hx : x_X7_buses m q = res) : Ev mtab mcode d 114 [.ref b, .int v_q] (n, c, s, mm b m M) (.inl none) (n, c, s, mm b res M) := by
  obtain ⟨d, rfl⟩ : ∃ e, d = e + 1 := ⟨d - 1, by omega⟩
  subst e_q
  rw [x_X7_buses_eq] at hx
  unfold y_X7_buses at hx
  refine jv_mk (m := mX7_buses) (cd := jcX7_buses) rfl rfl (Nat.le_of_ble_eq_true rfl) trivial ?_
  refine JV.ald (p2 := 1) rfl rfl rfl ?_
  refine JV.ild (p2 := 2) rfl rfl rfl ?_
  refine JV.stk (len := 1) (sem := (s_push (.int 4))) (p2 := 3) rfl rfl rfl ?_
  refine JV.invI (p2 := 6) rfl rfl rfl mm_M (Nat.le_of_ble_eq_true rfl) rfl (ev_X7_of (q := q) (w := 4) (by omega) rfl rfl (by omega) (by omega) rfl) ?_
  refine JV.stk (len := 2) (sem := (s_push (.int 49))) (p2 := 8) rfl rfl rfl ?_
  refine JV.stk (len := 1) (sem := s_iadd) (p2 := 9) rfl rfl rfl ?_
  refine JV.stk (len := 2) (sem := (s_push (.int 50))) (p2 := 11) rfl rfl rfl ?_
  refine JV.stk (len := 1) (sem := s_idiv) (p2 := 12) rfl rfl rfl ?_
  refine JV.ist (p2 := 13) rfl rfl rfl ?_
  refine JV.ald (p2 := 14) rfl rfl rfl ?_
  refine JV.getf (p2 := 17) rfl mm_M rfl rfl ?_
  refine JV.ild (p2 := 18) rfl rfl rfl ?_
  refine JV.stk (len := 2) (sem := (s_push (.int 9))) (p2 := 20) rfl rfl rfl ?_
  refine JV.insI (p2 := 23) rfl (Nat.le_of_ble_eq_true rfl) rfl rfl (Nat.le_of_ble_eq_true rfl) rfl (ev_X7_planeAt (by omega) rfl) rfl ?_
  refine JV.stk (len := 1) (sem := s_dup2) (p2 := 24) rfl rfl rfl ?_
  refine JV.iald (p2 := 25) (j := (35 + 10 * q + 9)) rfl mm_1 (pa_at rfl rfl) (by omega) (by decide) rfl ?_
  refine JV.ild (p2 := 26) rfl rfl rfl ?_
  refine JV.stk (len := 1) (sem := s_iadd) (p2 := 27) rfl rfl rfl ?_
  refine JV.iast (p2 := 28) (j := (35 + 10 * q + 9)) rfl mm_1 (pa_at rfl rfl) (by omega) (by decide) (mm_w1 (k := (35 + 10 * q + 9)) rfl) rfl ?_
  refine JV.ald (p2 := 29) rfl rfl rfl ?_
  refine JV.getf (p2 := 32) rfl mm_M rfl rfl ?_
  refine JV.stk (len := 2) (sem := (s_push (.int 6))) (p2 := 34) rfl rfl rfl ?_
  refine JV.stk (len := 1) (sem := s_dup2) (p2 := 35) rfl rfl rfl ?_
  refine JV.iald (p2 := 36) (j := 6) rfl mm_1 rfl (by omega) (by decide) rfl ?_
  refine JV.ild (p2 := 37) rfl rfl rfl ?_
  refine JV.stk (len := 1) (sem := s_iadd) (p2 := 38) rfl rfl rfl ?_
  refine JV.iast (p2 := 39) (j := 6) rfl mm_1 rfl (by omega) (by decide) (mm_w1 (k := 6) rfl) rfl ?_
  subst hx
  exact JV.ret rfl (fun _ => rfl) rfl rfl
theorem fw_X7_buses {m : Mem} {q : Nat} {v_q : Int32} {B : Nat} {m0 : Mem} (e_q : v_q = nI q) (hW : MW B m0 m) (hB : B + 0 < 2147483648) (hq : q < 12) : MW (B + 0) m0 (x_X7_buses m q) := by
  subst e_q
  rw [x_X7_buses_eq]
  unfold y_X7_buses
  exact MW.mono (MW.up (MW.up hW (by unfold mok; omega)) (by unfold mok; omega)) (by omega)
noncomputable def y_X7_takes (m : Mem) (t : Nat) (p2 : Int32) (p3 : Int32) (w : Nat) : Mem := (up3 (up3 (up3 m 1 0 (20 + 5 * t + 1) p2) 1 0 (20 + 5 * t + 2) p3) 1 0 (20 + 5 * t + w) (((up3 (up3 m 1 0 (20 + 5 * t + 1) p2) 1 0 (20 + 5 * t + 2) p3) 1 0 (20 + 5 * t + w)) + 1))
theorem xe_X7_takes : ∃ f, f = y_X7_takes := ⟨y_X7_takes, rfl⟩
noncomputable def x_X7_takes := Classical.choose xe_X7_takes
theorem x_X7_takes_eq : x_X7_takes = y_X7_takes := Classical.choose_spec xe_X7_takes
theorem ev_X7_takes {d n c s b : Nat} {m : Mem} {M : JM} {t : Nat} {v_t : Int32} {p2 : Int32} {p3 : Int32} {w : Nat} {v_w : Int32} {B : Nat} {m0 : Mem} {res : Mem} (hd : 2 ≤ d) (e_t : v_t = nI t) (e_w : v_w = nI w) (hW : MW B m0 m) (hB : B + 0 < 2147483648) (ht : t < 3) (hw : 3 ≤ w ∧ w < 5) (hv : VX 12 p2) (hx : x_X7_takes m t p2 p3 w = res) : Ev mtab mcode d 123 [.ref b, .int v_t, .int p2, .int p3, .int v_w] (n, c, s, mm b m M) (.inl none) (n, c, s, mm b res M) := by
  obtain ⟨d, rfl⟩ : ∃ e, d = e + 1 := ⟨d - 1, by omega⟩
  subst e_t
  subst e_w
  rw [x_X7_takes_eq] at hx
  unfold y_X7_takes at hx
  refine jv_mk (m := mX7_takes) (cd := jcX7_takes) rfl rfl (Nat.le_of_ble_eq_true rfl) trivial ?_
  refine JV.ald (p2 := 1) rfl rfl rfl ?_
  refine JV.getf (p2 := 4) rfl mm_M rfl rfl ?_
  refine JV.ild (p2 := 5) rfl rfl rfl ?_
  refine JV.stk (len := 1) (sem := (s_push (.int 1))) (p2 := 6) rfl rfl rfl ?_
  refine JV.insI (p2 := 9) rfl (Nat.le_of_ble_eq_true rfl) rfl rfl (Nat.le_of_ble_eq_true rfl) rfl (ev_X7_tugAt (by omega) rfl) rfl ?_
  refine JV.ild (p2 := 10) rfl rfl rfl ?_
  refine JV.iast (p2 := 11) (j := (20 + 5 * t + 1)) rfl mm_1 (ta_at rfl rfl) (by omega) (by decide) (mm_w1 (k := (20 + 5 * t + 1)) rfl) rfl ?_
  refine JV.ald (p2 := 12) rfl rfl rfl ?_
  refine JV.getf (p2 := 15) rfl mm_M rfl rfl ?_
  refine JV.ild (p2 := 16) rfl rfl rfl ?_
  refine JV.stk (len := 1) (sem := (s_push (.int 2))) (p2 := 17) rfl rfl rfl ?_
  refine JV.insI (p2 := 20) rfl (Nat.le_of_ble_eq_true rfl) rfl rfl (Nat.le_of_ble_eq_true rfl) rfl (ev_X7_tugAt (by omega) rfl) rfl ?_
  refine JV.ild (p2 := 21) rfl rfl rfl ?_
  refine JV.iast (p2 := 22) (j := (20 + 5 * t + 2)) rfl mm_1 (ta_at rfl rfl) (by omega) (by decide) (mm_w1 (k := (20 + 5 * t + 2)) rfl) rfl ?_
  refine JV.ald (p2 := 23) rfl rfl rfl ?_
  refine JV.getf (p2 := 26) rfl mm_M rfl rfl ?_
  refine JV.ild (p2 := 27) rfl rfl rfl ?_
  refine JV.ild (p2 := 29) rfl rfl rfl ?_
  refine JV.insI (p2 := 32) rfl (Nat.le_of_ble_eq_true rfl) rfl rfl (Nat.le_of_ble_eq_true rfl) rfl (ev_X7_tugAt (by omega) rfl) rfl ?_
  refine JV.stk (len := 1) (sem := s_dup2) (p2 := 33) rfl rfl rfl ?_
  refine JV.iald (p2 := 34) (j := (20 + 5 * t + w)) rfl mm_1 (ta_at rfl rfl) (by omega) (by decide) rfl ?_
  refine JV.stk (len := 1) (sem := (s_push (.int 1))) (p2 := 35) rfl rfl rfl ?_
  refine JV.stk (len := 1) (sem := s_iadd) (p2 := 36) rfl rfl rfl ?_
  refine JV.iast (p2 := 37) (j := (20 + 5 * t + w)) rfl mm_1 (ta_at rfl rfl) (by omega) (by decide) (mm_w1 (k := (20 + 5 * t + w)) rfl) rfl ?_
  subst hx
  exact JV.ret rfl (fun _ => rfl) rfl rfl
theorem fw_X7_takes {m : Mem} {t : Nat} {v_t : Int32} {p2 : Int32} {p3 : Int32} {w : Nat} {v_w : Int32} {B : Nat} {m0 : Mem} (e_t : v_t = nI t) (e_w : v_w = nI w) (hW : MW B m0 m) (hB : B + 0 < 2147483648) (ht : t < 3) (hw : 3 ≤ w ∧ w < 5) (hv : VX 12 p2) : MW (B + 0) m0 (x_X7_takes m t p2 p3 w) := by
  subst e_t
  subst e_w
  rw [x_X7_takes_eq]
  unfold y_X7_takes
  exact MW.mono (MW.up (MW.up (MW.upT hW (by omega) hv) (by unfold mok; omega)) (by unfold mok; omega)) (by omega)
noncomputable def bd_X7_tugs_2 (j : Nat) (m : Mem) : Mem := (if (m 1 0 (20 + 5 * j + 1)) = (-1) then m else (if ((up3 m 1 0 (20 + 5 * j + 2) ((m 1 0 (20 + 5 * j + 2)) - 1)) 1 0 (20 + 5 * j + 2)) = 0 then (if (x_X7_of (up3 (up3 m 1 0 (20 + 5 * j + 2) ((m 1 0 (20 + 5 * j + 2)) - 1)) 1 0 (20 + 5 * j + 1) (-1)) (ix (m 1 0 (20 + 5 * j + 1))) 5) = 3 then (x_X7_writes (up3 (up3 (up3 (up3 m 1 0 (20 + 5 * j + 2) ((m 1 0 (20 + 5 * j + 2)) - 1)) 1 0 (20 + 5 * j + 1) (-1)) 1 0 (35 + 10 * (ix (m 1 0 (20 + 5 * j + 1))) + 5) 1) 1 0 (35 + 10 * (ix (m 1 0 (20 + 5 * j + 1))) + 6) (x_X7_of (up3 (up3 (up3 m 1 0 (20 + 5 * j + 2) ((m 1 0 (20 + 5 * j + 2)) - 1)) 1 0 (20 + 5 * j + 1) (-1)) 1 0 (35 + 10 * (ix (m 1 0 (20 + 5 * j + 1))) + 5) 1) (ix (m 1 0 (20 + 5 * j + 1))) 6)) 6 (m 1 0 (20 + 5 * j + 1))) else (x_X7_writes (up3 (up3 (up3 (up3 m 1 0 (20 + 5 * j + 2) ((m 1 0 (20 + 5 * j + 2)) - 1)) 1 0 (20 + 5 * j + 1) (-1)) 1 0 (35 + 10 * (ix (m 1 0 (20 + 5 * j + 1))) + 5) 5) 1 0 (35 + 10 * (ix (m 1 0 (20 + 5 * j + 1))) + 6) (-1)) 4 (m 1 0 (20 + 5 * j + 1)))) else (up3 m 1 0 (20 + 5 * j + 2) ((m 1 0 (20 + 5 * j + 2)) - 1))))
noncomputable def ly_X7_tugs_2 (N : Nat) (m : Mem) : Mem := itr (fun jz s => bd_X7_tugs_2 jz s) N 0 m
theorem le_X7_tugs_2 : ∃ f, f = ly_X7_tugs_2 := ⟨ly_X7_tugs_2, rfl⟩
noncomputable def lf_X7_tugs_2 := Classical.choose le_X7_tugs_2
theorem lf_X7_tugs_2_eq : lf_X7_tugs_2 = ly_X7_tugs_2 := Classical.choose_spec le_X7_tugs_2
theorem fb_X7_tugs_2 {B : Nat} {m0 : Mem} (hB : B + 0 < 2147483648) {j : Nat} {m : Mem} (hjN : j < 3) (hW : MW (B + 0 * j) m0 m) : (MW (B + 0 * (j + 1)) m0 (bd_X7_tugs_2 j m)) := by
  unfold bd_X7_tugs_2
  by_cases h25 : (m 1 0 (20 + 5 * j + 1)) = (-1)
  · rw [if_pos h25]
    exact (MW.mono hW (by omega))
  · rw [if_neg h25]
    have b28 : ix (m 1 0 (20 + 5 * j + 1)) < 12 := VX.lt (hW.1.tu (by omega)) h25
    by_cases h52 : ((up3 m 1 0 (20 + 5 * j + 2) ((m 1 0 (20 + 5 * j + 2)) - 1)) 1 0 (20 + 5 * j + 2)) = 0
    · rw [if_pos h52]
      by_cases h73 : (x_X7_of (up3 (up3 m 1 0 (20 + 5 * j + 2) ((m 1 0 (20 + 5 * j + 2)) - 1)) 1 0 (20 + 5 * j + 1) (-1)) (ix (m 1 0 (20 + 5 * j + 1))) 5) = 3
      · rw [if_pos h73]
        exact (MW.mono (fw_X7_writes (MW.up (MW.up (MW.upT (MW.up hW (by unfold mok; omega)) (by omega) (Or.inl rfl)) (by unfold mok; omega)) (by unfold mok; omega)) (by omega)) (by omega))
      · rw [if_neg h73]
        exact (MW.mono (fw_X7_writes (MW.up (MW.up (MW.upT (MW.up hW (by unfold mok; omega)) (by omega) (Or.inl rfl)) (by unfold mok; omega)) (by unfold mok; omega)) (by omega)) (by omega))
    · rw [if_neg h52]
      exact (MW.mono (MW.up hW (by unfold mok; omega)) (by omega))
theorem fl_X7_tugs_2 {B : Nat} {m0 : Mem} {N : Nat} (hB : B + 0 < 2147483648) {m : Mem} (hNc : N ≤ 3) (hW : MW (B + 0 * 0) m0 m) : (MW (B + 0 * N) m0 (lf_X7_tugs_2 N m)) := by
  rw [lf_X7_tugs_2_eq]
  unfold ly_X7_tugs_2
  exact itr_inv (n := N) (s := m) (P := fun jz s => (MW (B + 0 * jz) m0 s)) (fun jz s => bd_X7_tugs_2 jz s) (fun jz s hj hs => fb_X7_tugs_2 (B := B) (m0 := m0) hB (j := jz) (m := s) (by omega) hs) hW
theorem lp_X7_tugs_2 {d n c s b : Nat} {M : JM} {o : JO} {hf : JH} {B : Nat} {m0 : Mem} {N : Nat} (hd : 2 ≤ d) (hB : B + 0 < 2147483648) (hNc : N ≤ 3) : ∀ (k j : Nat) (m : Mem), j + k = N → m 1 0 1 = nI N → (MW (B + 0 * j) m0 m) → JV (Ev mtab mcode d) jcX7_tugs (148, [(0, .ref b)], []) (n, c, s, mm b (itr (fun jz s => bd_X7_tugs_2 jz s) k j m) M) o hf → JV (Ev mtab mcode d) jcX7_tugs (2, [(0, .ref b), (1, .int (nI j))], []) (n, c, s, mm b m M) o hf := by
  intro k
  induction k with
  | zero =>
    intro j m hj hN hW hc
    refine JV.ild (p2 := 3) rfl rfl rfl ?_
    refine JV.ald (p2 := 4) rfl rfl rfl ?_
    refine JV.getf (p2 := 7) rfl mm_M rfl rfl ?_
    refine JV.stk (len := 1) (sem := (s_push (.int 1))) (p2 := 8) rfl rfl rfl ?_
    refine JV.iald (p2 := 9) (j := 1) rfl mm_1 rfl (by omega) (by decide) rfl ?_
    refine JV.brT rfl rfl (by rw [hN]; exact nI_le (a := N) (b := j) (by omega) (by omega)) ?_
    exact JV.keep [0] rfl hc
  | succ k ih =>
    intro j m hj hN hW hc
    obtain ⟨s1, hx⟩ : ∃ s1, bd_X7_tugs_2 j m = s1 := ⟨_, rfl⟩
    have hc2 : JV (Ev mtab mcode d) jcX7_tugs (148, [(0, .ref b)], []) (n, c, s, mm b (itr (fun jz s => bd_X7_tugs_2 jz s) k (j + 1) s1) M) o hf := by
      subst hx
      exact hc
    clear hc
    have iv := fb_X7_tugs_2 (B := B) (m0 := m0) hB (j := j) (m := m) (by omega) hW
    rw [hx] at iv
    unfold bd_X7_tugs_2 at hx
    refine JV.ild (p2 := 3) rfl rfl rfl ?_
    refine JV.ald (p2 := 4) rfl rfl rfl ?_
    refine JV.getf (p2 := 7) rfl mm_M rfl rfl ?_
    refine JV.stk (len := 1) (sem := (s_push (.int 1))) (p2 := 8) rfl rfl rfl ?_
    refine JV.iald (p2 := 9) (j := 1) rfl mm_1 rfl (by omega) (by decide) rfl ?_
    refine JV.brF (p2 := 12) rfl rfl rfl (by rw [hN]; exact nI_ge (a := j) (b := N) (by omega) (by omega)) ?_
    refine JV.ald (p2 := 13) rfl rfl rfl ?_
    refine JV.getf (p2 := 16) rfl mm_M rfl rfl ?_
    refine JV.ild (p2 := 17) rfl rfl rfl ?_
    refine JV.stk (len := 1) (sem := (s_push (.int 1))) (p2 := 18) rfl rfl rfl ?_
    refine JV.insI (p2 := 21) rfl (Nat.le_of_ble_eq_true rfl) rfl rfl (Nat.le_of_ble_eq_true rfl) rfl (ev_X7_tugAt (by omega) rfl) rfl ?_
    refine JV.iald (p2 := 22) (j := (20 + 5 * j + 1)) rfl mm_1 (ta_at rfl rfl) (by omega) (by decide) rfl ?_
    refine JV.ist (p2 := 23) rfl rfl rfl ?_
    refine JV.ild (p2 := 24) rfl rfl rfl ?_
    refine JV.stk (len := 1) (sem := (s_push (.int (-1)))) (p2 := 25) rfl rfl rfl ?_
    by_cases h25 : (m 1 0 (20 + 5 * j + 1)) = (-1)
    · rw [if_pos h25] at hx
      refine JV.brT rfl rfl h25 ?_
      refine JV.iinc (p2 := 145) rfl rfl (nI_1 _) rfl rfl ?_
      refine JV.goto rfl ?_
      refine JV.keep [0, 1] rfl ?_
      subst hx
      exact ih (j + 1) _ (by omega) ((MW.same iv hW (by decide)).trans hN) iv hc2
    · rw [if_neg h25] at hx
      refine JV.brF (p2 := 28) rfl rfl rfl h25 ?_
      have b28 : ix (m 1 0 (20 + 5 * j + 1)) < 12 := VX.lt (hW.1.tu (by omega)) h25
      refine JV.ald (p2 := 29) rfl rfl rfl ?_
      refine JV.getf (p2 := 32) rfl mm_M rfl rfl ?_
      refine JV.ild (p2 := 33) rfl rfl rfl ?_
      refine JV.stk (len := 1) (sem := (s_push (.int 2))) (p2 := 34) rfl rfl rfl ?_
      refine JV.insI (p2 := 37) rfl (Nat.le_of_ble_eq_true rfl) rfl rfl (Nat.le_of_ble_eq_true rfl) rfl (ev_X7_tugAt (by omega) rfl) rfl ?_
      refine JV.stk (len := 1) (sem := s_dup2) (p2 := 38) rfl rfl rfl ?_
      refine JV.iald (p2 := 39) (j := (20 + 5 * j + 2)) rfl mm_1 (ta_at rfl rfl) (by omega) (by decide) rfl ?_
      refine JV.stk (len := 1) (sem := (s_push (.int 1))) (p2 := 40) rfl rfl rfl ?_
      refine JV.stk (len := 1) (sem := s_isub) (p2 := 41) rfl rfl rfl ?_
      refine JV.iast (p2 := 42) (j := (20 + 5 * j + 2)) rfl mm_1 (ta_at rfl rfl) (by omega) (by decide) (mm_w1 (k := (20 + 5 * j + 2)) rfl) rfl ?_
      refine JV.ald (p2 := 43) rfl rfl rfl ?_
      refine JV.getf (p2 := 46) rfl mm_M rfl rfl ?_
      refine JV.ild (p2 := 47) rfl rfl rfl ?_
      refine JV.stk (len := 1) (sem := (s_push (.int 2))) (p2 := 48) rfl rfl rfl ?_
      refine JV.insI (p2 := 51) rfl (Nat.le_of_ble_eq_true rfl) rfl rfl (Nat.le_of_ble_eq_true rfl) rfl (ev_X7_tugAt (by omega) rfl) rfl ?_
      refine JV.iald (p2 := 52) (j := (20 + 5 * j + 2)) rfl mm_1 (ta_at rfl rfl) (by omega) (by decide) rfl ?_
      by_cases h52 : ((up3 m 1 0 (20 + 5 * j + 2) ((m 1 0 (20 + 5 * j + 2)) - 1)) 1 0 (20 + 5 * j + 2)) = 0
      · rw [if_pos h52] at hx
        refine JV.brF (p2 := 55) rfl rfl rfl (fun e => e h52) ?_
        refine JV.ald (p2 := 56) rfl rfl rfl ?_
        refine JV.getf (p2 := 59) rfl mm_M rfl rfl ?_
        refine JV.ild (p2 := 60) rfl rfl rfl ?_
        refine JV.stk (len := 1) (sem := (s_push (.int 1))) (p2 := 61) rfl rfl rfl ?_
        refine JV.insI (p2 := 64) rfl (Nat.le_of_ble_eq_true rfl) rfl rfl (Nat.le_of_ble_eq_true rfl) rfl (ev_X7_tugAt (by omega) rfl) rfl ?_
        refine JV.stk (len := 1) (sem := (s_push (.int (-1)))) (p2 := 65) rfl rfl rfl ?_
        refine JV.iast (p2 := 66) (j := (20 + 5 * j + 1)) rfl mm_1 (ta_at rfl rfl) (by omega) (by decide) (mm_w1 (k := (20 + 5 * j + 1)) rfl) rfl ?_
        refine JV.ald (p2 := 67) rfl rfl rfl ?_
        refine JV.ild (p2 := 68) rfl rfl rfl ?_
        refine JV.stk (len := 1) (sem := (s_push (.int 5))) (p2 := 69) rfl rfl rfl ?_
        refine JV.invI (p2 := 72) rfl rfl rfl mm_M (Nat.le_of_ble_eq_true rfl) rfl (ev_X7_of (q := (ix (m 1 0 (20 + 5 * j + 1)))) (w := 5) (by omega) (VX.eq (hW.1.tu (by omega)) h25) rfl (by omega) (by omega) rfl) ?_
        refine JV.stk (len := 1) (sem := (s_push (.int 3))) (p2 := 73) rfl rfl rfl ?_
        by_cases h73 : (x_X7_of (up3 (up3 m 1 0 (20 + 5 * j + 2) ((m 1 0 (20 + 5 * j + 2)) - 1)) 1 0 (20 + 5 * j + 1) (-1)) (ix (m 1 0 (20 + 5 * j + 1))) 5) = 3
        · rw [if_pos h73] at hx
          refine JV.brF (p2 := 76) rfl rfl rfl (fun e => e h73) ?_
          refine JV.stk (len := 1) (sem := (s_push (.int 1))) (p2 := 77) rfl rfl rfl ?_
          refine JV.goto rfl ?_
          refine JV.ist (p2 := 82) rfl rfl rfl ?_
          refine JV.ald (p2 := 83) rfl rfl rfl ?_
          refine JV.getf (p2 := 86) rfl mm_M rfl rfl ?_
          refine JV.ild (p2 := 87) rfl rfl rfl ?_
          refine JV.stk (len := 1) (sem := (s_push (.int 5))) (p2 := 88) rfl rfl rfl ?_
          refine JV.insI (p2 := 91) rfl (Nat.le_of_ble_eq_true rfl) rfl rfl (Nat.le_of_ble_eq_true rfl) rfl (ev_X7_planeAt (by omega) rfl) rfl ?_
          refine JV.ild (p2 := 92) rfl rfl rfl ?_
          refine JV.brF (p2 := 95) rfl rfl rfl (by decide) ?_
          refine JV.stk (len := 1) (sem := (s_push (.int 1))) (p2 := 96) rfl rfl rfl ?_
          refine JV.goto rfl ?_
          refine JV.iast (p2 := 101) (j := (35 + 10 * (ix (m 1 0 (20 + 5 * j + 1))) + 5)) rfl mm_1 (pa_at (VX.eq (hW.1.tu (by omega)) h25) rfl) (by omega) (by decide) (mm_w1 (k := (35 + 10 * (ix (m 1 0 (20 + 5 * j + 1))) + 5)) rfl) rfl ?_
          refine JV.ald (p2 := 102) rfl rfl rfl ?_
          refine JV.getf (p2 := 105) rfl mm_M rfl rfl ?_
          refine JV.ild (p2 := 106) rfl rfl rfl ?_
          refine JV.stk (len := 2) (sem := (s_push (.int 6))) (p2 := 108) rfl rfl rfl ?_
          refine JV.insI (p2 := 111) rfl (Nat.le_of_ble_eq_true rfl) rfl rfl (Nat.le_of_ble_eq_true rfl) rfl (ev_X7_planeAt (by omega) rfl) rfl ?_
          refine JV.ild (p2 := 112) rfl rfl rfl ?_
          refine JV.brF (p2 := 115) rfl rfl rfl (by decide) ?_
          refine JV.ald (p2 := 116) rfl rfl rfl ?_
          refine JV.ild (p2 := 117) rfl rfl rfl ?_
          refine JV.stk (len := 2) (sem := (s_push (.int 6))) (p2 := 119) rfl rfl rfl ?_
          refine JV.invI (p2 := 122) rfl rfl rfl mm_M (Nat.le_of_ble_eq_true rfl) rfl (ev_X7_of (q := (ix (m 1 0 (20 + 5 * j + 1)))) (w := 6) (by omega) (VX.eq (hW.1.tu (by omega)) h25) rfl (by omega) (by omega) rfl) ?_
          refine JV.goto rfl ?_
          refine JV.iast (p2 := 127) (j := (35 + 10 * (ix (m 1 0 (20 + 5 * j + 1))) + 6)) rfl mm_1 (pa_at (VX.eq (hW.1.tu (by omega)) h25) rfl) (by omega) (by decide) (mm_w1 (k := (35 + 10 * (ix (m 1 0 (20 + 5 * j + 1))) + 6)) rfl) rfl ?_
          refine JV.ald (p2 := 128) rfl rfl rfl ?_
          refine JV.ild (p2 := 129) rfl rfl rfl ?_
          refine JV.brF (p2 := 132) rfl rfl rfl (by decide) ?_
          refine JV.stk (len := 2) (sem := (s_push (.int 6))) (p2 := 134) rfl rfl rfl ?_
          refine JV.goto rfl ?_
          refine JV.ild (p2 := 139) rfl rfl rfl ?_
          refine JV.inv0 (p2 := 142) rfl rfl rfl mm_M (Nat.le_of_ble_eq_true rfl) rfl (ev_X7_writes (by omega) (MW.up (MW.up (MW.upT (MW.up hW (by unfold mok; omega)) (by omega) (Or.inl rfl)) (by unfold mok; omega)) (by unfold mok; omega)) (by omega) rfl) ?_
          refine JV.iinc (p2 := 145) rfl rfl (nI_1 _) rfl rfl ?_
          refine JV.goto rfl ?_
          refine JV.keep [0, 1] rfl ?_
          subst hx
          exact ih (j + 1) _ (by omega) ((MW.same iv hW (by decide)).trans hN) iv hc2
        · rw [if_neg h73] at hx
          refine JV.brT rfl rfl h73 ?_
          refine JV.stk (len := 1) (sem := (s_push (.int 0))) (p2 := 81) rfl rfl rfl ?_
          refine JV.ist (p2 := 82) rfl rfl rfl ?_
          refine JV.ald (p2 := 83) rfl rfl rfl ?_
          refine JV.getf (p2 := 86) rfl mm_M rfl rfl ?_
          refine JV.ild (p2 := 87) rfl rfl rfl ?_
          refine JV.stk (len := 1) (sem := (s_push (.int 5))) (p2 := 88) rfl rfl rfl ?_
          refine JV.insI (p2 := 91) rfl (Nat.le_of_ble_eq_true rfl) rfl rfl (Nat.le_of_ble_eq_true rfl) rfl (ev_X7_planeAt (by omega) rfl) rfl ?_
          refine JV.ild (p2 := 92) rfl rfl rfl ?_
          refine JV.brT rfl rfl (by decide) ?_
          refine JV.stk (len := 1) (sem := (s_push (.int 5))) (p2 := 100) rfl rfl rfl ?_
          refine JV.iast (p2 := 101) (j := (35 + 10 * (ix (m 1 0 (20 + 5 * j + 1))) + 5)) rfl mm_1 (pa_at (VX.eq (hW.1.tu (by omega)) h25) rfl) (by omega) (by decide) (mm_w1 (k := (35 + 10 * (ix (m 1 0 (20 + 5 * j + 1))) + 5)) rfl) rfl ?_
          refine JV.ald (p2 := 102) rfl rfl rfl ?_
          refine JV.getf (p2 := 105) rfl mm_M rfl rfl ?_
          refine JV.ild (p2 := 106) rfl rfl rfl ?_
          refine JV.stk (len := 2) (sem := (s_push (.int 6))) (p2 := 108) rfl rfl rfl ?_
          refine JV.insI (p2 := 111) rfl (Nat.le_of_ble_eq_true rfl) rfl rfl (Nat.le_of_ble_eq_true rfl) rfl (ev_X7_planeAt (by omega) rfl) rfl ?_
          refine JV.ild (p2 := 112) rfl rfl rfl ?_
          refine JV.brT rfl rfl (by decide) ?_
          refine JV.stk (len := 1) (sem := (s_push (.int (-1)))) (p2 := 126) rfl rfl rfl ?_
          refine JV.iast (p2 := 127) (j := (35 + 10 * (ix (m 1 0 (20 + 5 * j + 1))) + 6)) rfl mm_1 (pa_at (VX.eq (hW.1.tu (by omega)) h25) rfl) (by omega) (by decide) (mm_w1 (k := (35 + 10 * (ix (m 1 0 (20 + 5 * j + 1))) + 6)) rfl) rfl ?_
          refine JV.ald (p2 := 128) rfl rfl rfl ?_
          refine JV.ild (p2 := 129) rfl rfl rfl ?_
          refine JV.brT rfl rfl (by decide) ?_
          refine JV.stk (len := 1) (sem := (s_push (.int 4))) (p2 := 138) rfl rfl rfl ?_
          refine JV.ild (p2 := 139) rfl rfl rfl ?_
          refine JV.inv0 (p2 := 142) rfl rfl rfl mm_M (Nat.le_of_ble_eq_true rfl) rfl (ev_X7_writes (by omega) (MW.up (MW.up (MW.upT (MW.up hW (by unfold mok; omega)) (by omega) (Or.inl rfl)) (by unfold mok; omega)) (by unfold mok; omega)) (by omega) rfl) ?_
          refine JV.iinc (p2 := 145) rfl rfl (nI_1 _) rfl rfl ?_
          refine JV.goto rfl ?_
          refine JV.keep [0, 1] rfl ?_
          subst hx
          exact ih (j + 1) _ (by omega) ((MW.same iv hW (by decide)).trans hN) iv hc2
      · rw [if_neg h52] at hx
        refine JV.brT rfl rfl h52 ?_
        refine JV.iinc (p2 := 145) rfl rfl (nI_1 _) rfl rfl ?_
        refine JV.goto rfl ?_
        refine JV.keep [0, 1] rfl ?_
        subst hx
        exact ih (j + 1) _ (by omega) ((MW.same iv hW (by decide)).trans hN) iv hc2
theorem lq_X7_tugs_2 {d n c s b : Nat} {M : JM} {o : JO} {hf : JH} {B : Nat} {m0 : Mem} {N : Nat} {m : Mem} (hd : 2 ≤ d) (hB : B + 0 < 2147483648) (hNc : N ≤ 3) (hN : m 1 0 1 = nI N) (hW : MW (B + 0 * 0) m0 m) (hc : JV (Ev mtab mcode d) jcX7_tugs (148, [(0, .ref b)], []) (n, c, s, mm b (lf_X7_tugs_2 N m) M) o hf) : JV (Ev mtab mcode d) jcX7_tugs (2, [(0, .ref b), (1, .int 0)], []) (n, c, s, mm b m M) o hf := by
  rw [lf_X7_tugs_2_eq] at hc
  unfold ly_X7_tugs_2 at hc
  exact lp_X7_tugs_2 (B := B) (m0 := m0) hd hB hNc N 0 m (by omega) hN hW hc
noncomputable def y_X7_tugs (m : Mem) : Mem := (lf_X7_tugs_2 (ix (m 1 0 1)) m)
theorem xe_X7_tugs : ∃ f, f = y_X7_tugs := ⟨y_X7_tugs, rfl⟩
noncomputable def x_X7_tugs := Classical.choose xe_X7_tugs
theorem x_X7_tugs_eq : x_X7_tugs = y_X7_tugs := Classical.choose_spec xe_X7_tugs
theorem ev_X7_tugs {d n c s b : Nat} {m : Mem} {M : JM} {B : Nat} {m0 : Mem} {res : Mem} (hd : 3 ≤ d) (hW : MW B m0 m) (hB : B + 0 < 2147483648) (hx : x_X7_tugs m = res) : Ev mtab mcode d 118 [.ref b] (n, c, s, mm b m M) (.inl none) (n, c, s, mm b res M) := by
  obtain ⟨d, rfl⟩ : ∃ e, d = e + 1 := ⟨d - 1, by omega⟩
  rw [x_X7_tugs_eq] at hx
  unfold y_X7_tugs at hx
  refine jv_mk (m := mX7_tugs) (cd := jcX7_tugs) rfl rfl (Nat.le_of_ble_eq_true rfl) trivial ?_
  refine JV.stk (len := 1) (sem := (s_push (.int 0))) (p2 := 1) rfl rfl rfl ?_
  refine JV.ist (p2 := 2) rfl rfl rfl ?_
  refine lq_X7_tugs_2 (m := m) (N := (ix (m 1 0 1))) (B := B) (m0 := m0) (by omega) (by omega) hW.1.nt.2 (MW.cN hW hW (by decide)) (MW.mono hW (by omega)) ?_
  subst hx
  exact JV.ret rfl (fun _ => rfl) rfl rfl
theorem fw_X7_tugs {m : Mem} {B : Nat} {m0 : Mem} (hW : MW B m0 m) (hB : B + 0 < 2147483648) : MW (B + 0) m0 (x_X7_tugs m) := by
  rw [x_X7_tugs_eq]
  unfold y_X7_tugs
  exact MW.mono (MW.mono (fl_X7_tugs_2 (m := m) (N := (ix (m 1 0 1))) (B := B) (m0 := m0) (by omega) hW.1.nt.2 (MW.mono hW (by omega))) (B' := B + 0) (by have hc9 := hW.1.nt.2; omega)) (by omega)
noncomputable def bd_X7_arrivals_2 (j : Nat) (m : Mem) : Mem := (if (x_X7_of m j 5) = 0 then (if (m 1 0 3) < (x_X7_of m j 2) then m else (if (x_X7_standFor m j) = (-1) then (if (x_X7_standFor m j) = (-1) then (if (x_X7_standFor m j) = (-1) then (x_X7_writes (x_X7_buses (up3 (up3 m 1 0 (35 + 10 * j + 5) 2) 1 0 (35 + 10 * j + 6) (x_X7_standFor m j)) j) 2 (nI j)) else (x_X7_writes (x_X7_buses (up3 (up3 m 1 0 (35 + 10 * j + 5) 2) 1 0 (35 + 10 * j + 6) (x_X7_standFor m j)) j) 1 (nI j))) else (if (x_X7_standFor m j) = (-1) then (x_X7_writes (up3 (up3 m 1 0 (35 + 10 * j + 5) 2) 1 0 (35 + 10 * j + 6) (x_X7_standFor m j)) 2 (nI j)) else (x_X7_writes (up3 (up3 m 1 0 (35 + 10 * j + 5) 2) 1 0 (35 + 10 * j + 6) (x_X7_standFor m j)) 1 (nI j)))) else (if (x_X7_standFor m j) = (-1) then (if (x_X7_standFor m j) = (-1) then (x_X7_writes (x_X7_buses (up3 (up3 m 1 0 (35 + 10 * j + 5) 1) 1 0 (35 + 10 * j + 6) (x_X7_standFor m j)) j) 2 (nI j)) else (x_X7_writes (x_X7_buses (up3 (up3 m 1 0 (35 + 10 * j + 5) 1) 1 0 (35 + 10 * j + 6) (x_X7_standFor m j)) j) 1 (nI j))) else (if (x_X7_standFor m j) = (-1) then (x_X7_writes (up3 (up3 m 1 0 (35 + 10 * j + 5) 1) 1 0 (35 + 10 * j + 6) (x_X7_standFor m j)) 2 (nI j)) else (x_X7_writes (up3 (up3 m 1 0 (35 + 10 * j + 5) 1) 1 0 (35 + 10 * j + 6) (x_X7_standFor m j)) 1 (nI j)))))) else m)
noncomputable def ly_X7_arrivals_2 (N : Nat) (m : Mem) : Mem := itr (fun jz s => bd_X7_arrivals_2 jz s) N 0 m
theorem le_X7_arrivals_2 : ∃ f, f = ly_X7_arrivals_2 := ⟨ly_X7_arrivals_2, rfl⟩
noncomputable def lf_X7_arrivals_2 := Classical.choose le_X7_arrivals_2
theorem lf_X7_arrivals_2_eq : lf_X7_arrivals_2 = ly_X7_arrivals_2 := Classical.choose_spec le_X7_arrivals_2
theorem fb_X7_arrivals_2 {B : Nat} {m0 : Mem} (hB : B + 0 < 2147483648) {j : Nat} {m : Mem} (hjN : j < 12) (hW : MW (B + 0 * j) m0 m) : (MW (B + 0 * (j + 1)) m0 (bd_X7_arrivals_2 j m)) := by
  unfold bd_X7_arrivals_2
  by_cases h18 : (x_X7_of m j 5) = 0
  · rw [if_pos h18]
    by_cases h33 : (m 1 0 3) < (x_X7_of m j 2)
    · rw [if_pos h33]
      exact (MW.mono hW (by omega))
    · rw [if_neg h33]
      by_cases h53 : (x_X7_standFor m j) = (-1)
      · rw [if_pos h53]
        by_cases h76 : (x_X7_standFor m j) = (-1)
        · rw [if_pos h76]
          by_cases h87 : (x_X7_standFor m j) = (-1)
          · rw [if_pos h87]
            exact (MW.mono (fw_X7_writes (fw_X7_buses (q := j) rfl (MW.up (MW.up hW (by unfold mok; omega)) (by unfold mok; omega)) (by omega) (by omega)) (by omega)) (by omega))
          · rw [if_neg h87]
            exact (MW.mono (fw_X7_writes (fw_X7_buses (q := j) rfl (MW.up (MW.up hW (by unfold mok; omega)) (by unfold mok; omega)) (by omega) (by omega)) (by omega)) (by omega))
        · rw [if_neg h76]
          by_cases h87 : (x_X7_standFor m j) = (-1)
          · rw [if_pos h87]
            exact (MW.mono (fw_X7_writes (MW.up (MW.up hW (by unfold mok; omega)) (by unfold mok; omega)) (by omega)) (by omega))
          · rw [if_neg h87]
            exact (MW.mono (fw_X7_writes (MW.up (MW.up hW (by unfold mok; omega)) (by unfold mok; omega)) (by omega)) (by omega))
      · rw [if_neg h53]
        by_cases h76 : (x_X7_standFor m j) = (-1)
        · rw [if_pos h76]
          by_cases h87 : (x_X7_standFor m j) = (-1)
          · rw [if_pos h87]
            exact (MW.mono (fw_X7_writes (fw_X7_buses (q := j) rfl (MW.up (MW.up hW (by unfold mok; omega)) (by unfold mok; omega)) (by omega) (by omega)) (by omega)) (by omega))
          · rw [if_neg h87]
            exact (MW.mono (fw_X7_writes (fw_X7_buses (q := j) rfl (MW.up (MW.up hW (by unfold mok; omega)) (by unfold mok; omega)) (by omega) (by omega)) (by omega)) (by omega))
        · rw [if_neg h76]
          by_cases h87 : (x_X7_standFor m j) = (-1)
          · rw [if_pos h87]
            exact (MW.mono (fw_X7_writes (MW.up (MW.up hW (by unfold mok; omega)) (by unfold mok; omega)) (by omega)) (by omega))
          · rw [if_neg h87]
            exact (MW.mono (fw_X7_writes (MW.up (MW.up hW (by unfold mok; omega)) (by unfold mok; omega)) (by omega)) (by omega))
  · rw [if_neg h18]
    exact (MW.mono hW (by omega))
theorem fl_X7_arrivals_2 {B : Nat} {m0 : Mem} {N : Nat} (hB : B + 0 < 2147483648) {m : Mem} (hNc : N ≤ 12) (hW : MW (B + 0 * 0) m0 m) : (MW (B + 0 * N) m0 (lf_X7_arrivals_2 N m)) := by
  rw [lf_X7_arrivals_2_eq]
  unfold ly_X7_arrivals_2
  exact itr_inv (n := N) (s := m) (P := fun jz s => (MW (B + 0 * jz) m0 s)) (fun jz s => bd_X7_arrivals_2 jz s) (fun jz s hj hs => fb_X7_arrivals_2 (B := B) (m0 := m0) hB (j := jz) (m := s) (by omega) hs) hW
theorem lp_X7_arrivals_2 {d n c s b : Nat} {M : JM} {o : JO} {hf : JH} {B : Nat} {m0 : Mem} {N : Nat} (hd : 4 ≤ d) (hB : B + 0 < 2147483648) (hNc : N ≤ 12) : ∀ (k j : Nat) (m : Mem), j + k = N → m 1 0 2 = nI N → (MW (B + 0 * j) m0 m) → JV (Ev mtab mcode d) jcX7_arrivals (105, [(0, .ref b)], []) (n, c, s, mm b (itr (fun jz s => bd_X7_arrivals_2 jz s) k j m) M) o hf → JV (Ev mtab mcode d) jcX7_arrivals (2, [(0, .ref b), (1, .int (nI j))], []) (n, c, s, mm b m M) o hf := by
  intro k
  induction k with
  | zero =>
    intro j m hj hN hW hc
    refine JV.ild (p2 := 3) rfl rfl rfl ?_
    refine JV.ald (p2 := 4) rfl rfl rfl ?_
    refine JV.getf (p2 := 7) rfl mm_M rfl rfl ?_
    refine JV.stk (len := 1) (sem := (s_push (.int 2))) (p2 := 8) rfl rfl rfl ?_
    refine JV.iald (p2 := 9) (j := 2) rfl mm_1 rfl (by omega) (by decide) rfl ?_
    refine JV.brT rfl rfl (by rw [hN]; exact nI_le (a := N) (b := j) (by omega) (by omega)) ?_
    exact JV.keep [0] rfl hc
  | succ k ih =>
    intro j m hj hN hW hc
    obtain ⟨s1, hx⟩ : ∃ s1, bd_X7_arrivals_2 j m = s1 := ⟨_, rfl⟩
    have hc2 : JV (Ev mtab mcode d) jcX7_arrivals (105, [(0, .ref b)], []) (n, c, s, mm b (itr (fun jz s => bd_X7_arrivals_2 jz s) k (j + 1) s1) M) o hf := by
      subst hx
      exact hc
    clear hc
    have iv := fb_X7_arrivals_2 (B := B) (m0 := m0) hB (j := j) (m := m) (by omega) hW
    rw [hx] at iv
    unfold bd_X7_arrivals_2 at hx
    refine JV.ild (p2 := 3) rfl rfl rfl ?_
    refine JV.ald (p2 := 4) rfl rfl rfl ?_
    refine JV.getf (p2 := 7) rfl mm_M rfl rfl ?_
    refine JV.stk (len := 1) (sem := (s_push (.int 2))) (p2 := 8) rfl rfl rfl ?_
    refine JV.iald (p2 := 9) (j := 2) rfl mm_1 rfl (by omega) (by decide) rfl ?_
    refine JV.brF (p2 := 12) rfl rfl rfl (by rw [hN]; exact nI_ge (a := j) (b := N) (by omega) (by omega)) ?_
    refine JV.ald (p2 := 13) rfl rfl rfl ?_
    refine JV.ild (p2 := 14) rfl rfl rfl ?_
    refine JV.stk (len := 1) (sem := (s_push (.int 5))) (p2 := 15) rfl rfl rfl ?_
    refine JV.invI (p2 := 18) rfl rfl rfl mm_M (Nat.le_of_ble_eq_true rfl) rfl (ev_X7_of (q := j) (w := 5) (by omega) rfl rfl (by omega) (by omega) rfl) ?_
    by_cases h18 : (x_X7_of m j 5) = 0
    · rw [if_pos h18] at hx
      refine JV.brF (p2 := 21) rfl rfl rfl (fun e => e h18) ?_
      refine JV.ald (p2 := 22) rfl rfl rfl ?_
      refine JV.ild (p2 := 23) rfl rfl rfl ?_
      refine JV.stk (len := 1) (sem := (s_push (.int 2))) (p2 := 24) rfl rfl rfl ?_
      refine JV.invI (p2 := 27) rfl rfl rfl mm_M (Nat.le_of_ble_eq_true rfl) rfl (ev_X7_of (q := j) (w := 2) (by omega) rfl rfl (by omega) (by omega) rfl) ?_
      refine JV.ald (p2 := 28) rfl rfl rfl ?_
      refine JV.getf (p2 := 31) rfl mm_M rfl rfl ?_
      refine JV.stk (len := 1) (sem := (s_push (.int 3))) (p2 := 32) rfl rfl rfl ?_
      refine JV.iald (p2 := 33) (j := 3) rfl mm_1 rfl (by omega) (by decide) rfl ?_
      by_cases h33 : (m 1 0 3) < (x_X7_of m j 2)
      · rw [if_pos h33] at hx
        refine JV.brT rfl rfl h33 ?_
        refine JV.iinc (p2 := 102) rfl rfl (nI_1 _) rfl rfl ?_
        refine JV.goto rfl ?_
        subst hx
        exact ih (j + 1) _ (by omega) ((MW.same iv hW (by decide)).trans hN) iv hc2
      · rw [if_neg h33] at hx
        refine JV.brF (p2 := 36) rfl rfl rfl h33 ?_
        refine JV.ald (p2 := 37) rfl rfl rfl ?_
        refine JV.ild (p2 := 38) rfl rfl rfl ?_
        refine JV.invI (p2 := 41) rfl rfl rfl mm_M (Nat.le_of_ble_eq_true rfl) rfl (ev_X7_standFor (q := j) (by omega) rfl hW.1 (by omega) rfl) ?_
        refine JV.ist (p2 := 42) rfl rfl rfl ?_
        refine JV.ald (p2 := 43) rfl rfl rfl ?_
        refine JV.getf (p2 := 46) rfl mm_M rfl rfl ?_
        refine JV.ild (p2 := 47) rfl rfl rfl ?_
        refine JV.stk (len := 1) (sem := (s_push (.int 5))) (p2 := 48) rfl rfl rfl ?_
        refine JV.insI (p2 := 51) rfl (Nat.le_of_ble_eq_true rfl) rfl rfl (Nat.le_of_ble_eq_true rfl) rfl (ev_X7_planeAt (by omega) rfl) rfl ?_
        refine JV.ild (p2 := 52) rfl rfl rfl ?_
        refine JV.stk (len := 1) (sem := (s_push (.int (-1)))) (p2 := 53) rfl rfl rfl ?_
        by_cases h53 : (x_X7_standFor m j) = (-1)
        · rw [if_pos h53] at hx
          refine JV.brF (p2 := 56) rfl rfl rfl (fun e => e h53) ?_
          refine JV.stk (len := 1) (sem := (s_push (.int 2))) (p2 := 57) rfl rfl rfl ?_
          refine JV.goto rfl ?_
          refine JV.iast (p2 := 62) (j := (35 + 10 * j + 5)) rfl mm_1 (pa_at rfl rfl) (by omega) (by decide) (mm_w1 (k := (35 + 10 * j + 5)) rfl) rfl ?_
          refine JV.ald (p2 := 63) rfl rfl rfl ?_
          refine JV.getf (p2 := 66) rfl mm_M rfl rfl ?_
          refine JV.ild (p2 := 67) rfl rfl rfl ?_
          refine JV.stk (len := 2) (sem := (s_push (.int 6))) (p2 := 69) rfl rfl rfl ?_
          refine JV.insI (p2 := 72) rfl (Nat.le_of_ble_eq_true rfl) rfl rfl (Nat.le_of_ble_eq_true rfl) rfl (ev_X7_planeAt (by omega) rfl) rfl ?_
          refine JV.ild (p2 := 73) rfl rfl rfl ?_
          refine JV.iast (p2 := 74) (j := (35 + 10 * j + 6)) rfl mm_1 (pa_at rfl rfl) (by omega) (by decide) (mm_w1 (k := (35 + 10 * j + 6)) rfl) rfl ?_
          refine JV.ild (p2 := 75) rfl rfl rfl ?_
          refine JV.stk (len := 1) (sem := (s_push (.int (-1)))) (p2 := 76) rfl rfl rfl ?_
          by_cases h76 : (x_X7_standFor m j) = (-1)
          · rw [if_pos h76] at hx
            refine JV.brF (p2 := 79) rfl rfl rfl (fun e => e h76) ?_
            refine JV.ald (p2 := 80) rfl rfl rfl ?_
            refine JV.ild (p2 := 81) rfl rfl rfl ?_
            refine JV.inv0 (p2 := 84) rfl rfl rfl mm_M (Nat.le_of_ble_eq_true rfl) rfl (ev_X7_buses (q := j) (by omega) rfl (MW.up (MW.up hW (by unfold mok; omega)) (by unfold mok; omega)) (by omega) (by omega) rfl) ?_
            refine JV.ald (p2 := 85) rfl rfl rfl ?_
            refine JV.ild (p2 := 86) rfl rfl rfl ?_
            refine JV.stk (len := 1) (sem := (s_push (.int (-1)))) (p2 := 87) rfl rfl rfl ?_
            by_cases h87 : (x_X7_standFor m j) = (-1)
            · rw [if_pos h87] at hx
              refine JV.brF (p2 := 90) rfl rfl rfl (fun e => e h87) ?_
              refine JV.stk (len := 1) (sem := (s_push (.int 2))) (p2 := 91) rfl rfl rfl ?_
              refine JV.goto rfl ?_
              refine JV.ild (p2 := 96) rfl rfl rfl ?_
              refine JV.inv0 (p2 := 99) rfl rfl rfl mm_M (Nat.le_of_ble_eq_true rfl) rfl (ev_X7_writes (by omega) (fw_X7_buses (q := j) rfl (MW.up (MW.up hW (by unfold mok; omega)) (by unfold mok; omega)) (by omega) (by omega)) (by omega) rfl) ?_
              refine JV.iinc (p2 := 102) rfl rfl (nI_1 _) rfl rfl ?_
              refine JV.goto rfl ?_
              refine JV.keep [0, 1] rfl ?_
              subst hx
              exact ih (j + 1) _ (by omega) ((MW.same iv hW (by decide)).trans hN) iv hc2
            · rw [if_neg h87] at hx
              refine JV.brT rfl rfl h87 ?_
              refine JV.stk (len := 1) (sem := (s_push (.int 1))) (p2 := 95) rfl rfl rfl ?_
              refine JV.ild (p2 := 96) rfl rfl rfl ?_
              refine JV.inv0 (p2 := 99) rfl rfl rfl mm_M (Nat.le_of_ble_eq_true rfl) rfl (ev_X7_writes (by omega) (fw_X7_buses (q := j) rfl (MW.up (MW.up hW (by unfold mok; omega)) (by unfold mok; omega)) (by omega) (by omega)) (by omega) rfl) ?_
              refine JV.iinc (p2 := 102) rfl rfl (nI_1 _) rfl rfl ?_
              refine JV.goto rfl ?_
              refine JV.keep [0, 1] rfl ?_
              subst hx
              exact ih (j + 1) _ (by omega) ((MW.same iv hW (by decide)).trans hN) iv hc2
          · rw [if_neg h76] at hx
            refine JV.brT rfl rfl h76 ?_
            refine JV.ald (p2 := 85) rfl rfl rfl ?_
            refine JV.ild (p2 := 86) rfl rfl rfl ?_
            refine JV.stk (len := 1) (sem := (s_push (.int (-1)))) (p2 := 87) rfl rfl rfl ?_
            by_cases h87 : (x_X7_standFor m j) = (-1)
            · rw [if_pos h87] at hx
              refine JV.brF (p2 := 90) rfl rfl rfl (fun e => e h87) ?_
              refine JV.stk (len := 1) (sem := (s_push (.int 2))) (p2 := 91) rfl rfl rfl ?_
              refine JV.goto rfl ?_
              refine JV.ild (p2 := 96) rfl rfl rfl ?_
              refine JV.inv0 (p2 := 99) rfl rfl rfl mm_M (Nat.le_of_ble_eq_true rfl) rfl (ev_X7_writes (by omega) (MW.up (MW.up hW (by unfold mok; omega)) (by unfold mok; omega)) (by omega) rfl) ?_
              refine JV.iinc (p2 := 102) rfl rfl (nI_1 _) rfl rfl ?_
              refine JV.goto rfl ?_
              refine JV.keep [0, 1] rfl ?_
              subst hx
              exact ih (j + 1) _ (by omega) ((MW.same iv hW (by decide)).trans hN) iv hc2
            · rw [if_neg h87] at hx
              refine JV.brT rfl rfl h87 ?_
              refine JV.stk (len := 1) (sem := (s_push (.int 1))) (p2 := 95) rfl rfl rfl ?_
              refine JV.ild (p2 := 96) rfl rfl rfl ?_
              refine JV.inv0 (p2 := 99) rfl rfl rfl mm_M (Nat.le_of_ble_eq_true rfl) rfl (ev_X7_writes (by omega) (MW.up (MW.up hW (by unfold mok; omega)) (by unfold mok; omega)) (by omega) rfl) ?_
              refine JV.iinc (p2 := 102) rfl rfl (nI_1 _) rfl rfl ?_
              refine JV.goto rfl ?_
              refine JV.keep [0, 1] rfl ?_
              subst hx
              exact ih (j + 1) _ (by omega) ((MW.same iv hW (by decide)).trans hN) iv hc2
        · rw [if_neg h53] at hx
          refine JV.brT rfl rfl h53 ?_
          refine JV.stk (len := 1) (sem := (s_push (.int 1))) (p2 := 61) rfl rfl rfl ?_
          refine JV.iast (p2 := 62) (j := (35 + 10 * j + 5)) rfl mm_1 (pa_at rfl rfl) (by omega) (by decide) (mm_w1 (k := (35 + 10 * j + 5)) rfl) rfl ?_
          refine JV.ald (p2 := 63) rfl rfl rfl ?_
          refine JV.getf (p2 := 66) rfl mm_M rfl rfl ?_
          refine JV.ild (p2 := 67) rfl rfl rfl ?_
          refine JV.stk (len := 2) (sem := (s_push (.int 6))) (p2 := 69) rfl rfl rfl ?_
          refine JV.insI (p2 := 72) rfl (Nat.le_of_ble_eq_true rfl) rfl rfl (Nat.le_of_ble_eq_true rfl) rfl (ev_X7_planeAt (by omega) rfl) rfl ?_
          refine JV.ild (p2 := 73) rfl rfl rfl ?_
          refine JV.iast (p2 := 74) (j := (35 + 10 * j + 6)) rfl mm_1 (pa_at rfl rfl) (by omega) (by decide) (mm_w1 (k := (35 + 10 * j + 6)) rfl) rfl ?_
          refine JV.ild (p2 := 75) rfl rfl rfl ?_
          refine JV.stk (len := 1) (sem := (s_push (.int (-1)))) (p2 := 76) rfl rfl rfl ?_
          by_cases h76 : (x_X7_standFor m j) = (-1)
          · rw [if_pos h76] at hx
            refine JV.brF (p2 := 79) rfl rfl rfl (fun e => e h76) ?_
            refine JV.ald (p2 := 80) rfl rfl rfl ?_
            refine JV.ild (p2 := 81) rfl rfl rfl ?_
            refine JV.inv0 (p2 := 84) rfl rfl rfl mm_M (Nat.le_of_ble_eq_true rfl) rfl (ev_X7_buses (q := j) (by omega) rfl (MW.up (MW.up hW (by unfold mok; omega)) (by unfold mok; omega)) (by omega) (by omega) rfl) ?_
            refine JV.ald (p2 := 85) rfl rfl rfl ?_
            refine JV.ild (p2 := 86) rfl rfl rfl ?_
            refine JV.stk (len := 1) (sem := (s_push (.int (-1)))) (p2 := 87) rfl rfl rfl ?_
            by_cases h87 : (x_X7_standFor m j) = (-1)
            · rw [if_pos h87] at hx
              refine JV.brF (p2 := 90) rfl rfl rfl (fun e => e h87) ?_
              refine JV.stk (len := 1) (sem := (s_push (.int 2))) (p2 := 91) rfl rfl rfl ?_
              refine JV.goto rfl ?_
              refine JV.ild (p2 := 96) rfl rfl rfl ?_
              refine JV.inv0 (p2 := 99) rfl rfl rfl mm_M (Nat.le_of_ble_eq_true rfl) rfl (ev_X7_writes (by omega) (fw_X7_buses (q := j) rfl (MW.up (MW.up hW (by unfold mok; omega)) (by unfold mok; omega)) (by omega) (by omega)) (by omega) rfl) ?_
              refine JV.iinc (p2 := 102) rfl rfl (nI_1 _) rfl rfl ?_
              refine JV.goto rfl ?_
              refine JV.keep [0, 1] rfl ?_
              subst hx
              exact ih (j + 1) _ (by omega) ((MW.same iv hW (by decide)).trans hN) iv hc2
            · rw [if_neg h87] at hx
              refine JV.brT rfl rfl h87 ?_
              refine JV.stk (len := 1) (sem := (s_push (.int 1))) (p2 := 95) rfl rfl rfl ?_
              refine JV.ild (p2 := 96) rfl rfl rfl ?_
              refine JV.inv0 (p2 := 99) rfl rfl rfl mm_M (Nat.le_of_ble_eq_true rfl) rfl (ev_X7_writes (by omega) (fw_X7_buses (q := j) rfl (MW.up (MW.up hW (by unfold mok; omega)) (by unfold mok; omega)) (by omega) (by omega)) (by omega) rfl) ?_
              refine JV.iinc (p2 := 102) rfl rfl (nI_1 _) rfl rfl ?_
              refine JV.goto rfl ?_
              refine JV.keep [0, 1] rfl ?_
              subst hx
              exact ih (j + 1) _ (by omega) ((MW.same iv hW (by decide)).trans hN) iv hc2
          · rw [if_neg h76] at hx
            refine JV.brT rfl rfl h76 ?_
            refine JV.ald (p2 := 85) rfl rfl rfl ?_
            refine JV.ild (p2 := 86) rfl rfl rfl ?_
            refine JV.stk (len := 1) (sem := (s_push (.int (-1)))) (p2 := 87) rfl rfl rfl ?_
            by_cases h87 : (x_X7_standFor m j) = (-1)
            · rw [if_pos h87] at hx
              refine JV.brF (p2 := 90) rfl rfl rfl (fun e => e h87) ?_
              refine JV.stk (len := 1) (sem := (s_push (.int 2))) (p2 := 91) rfl rfl rfl ?_
              refine JV.goto rfl ?_
              refine JV.ild (p2 := 96) rfl rfl rfl ?_
              refine JV.inv0 (p2 := 99) rfl rfl rfl mm_M (Nat.le_of_ble_eq_true rfl) rfl (ev_X7_writes (by omega) (MW.up (MW.up hW (by unfold mok; omega)) (by unfold mok; omega)) (by omega) rfl) ?_
              refine JV.iinc (p2 := 102) rfl rfl (nI_1 _) rfl rfl ?_
              refine JV.goto rfl ?_
              refine JV.keep [0, 1] rfl ?_
              subst hx
              exact ih (j + 1) _ (by omega) ((MW.same iv hW (by decide)).trans hN) iv hc2
            · rw [if_neg h87] at hx
              refine JV.brT rfl rfl h87 ?_
              refine JV.stk (len := 1) (sem := (s_push (.int 1))) (p2 := 95) rfl rfl rfl ?_
              refine JV.ild (p2 := 96) rfl rfl rfl ?_
              refine JV.inv0 (p2 := 99) rfl rfl rfl mm_M (Nat.le_of_ble_eq_true rfl) rfl (ev_X7_writes (by omega) (MW.up (MW.up hW (by unfold mok; omega)) (by unfold mok; omega)) (by omega) rfl) ?_
              refine JV.iinc (p2 := 102) rfl rfl (nI_1 _) rfl rfl ?_
              refine JV.goto rfl ?_
              refine JV.keep [0, 1] rfl ?_
              subst hx
              exact ih (j + 1) _ (by omega) ((MW.same iv hW (by decide)).trans hN) iv hc2
    · rw [if_neg h18] at hx
      refine JV.brT rfl rfl h18 ?_
      refine JV.iinc (p2 := 102) rfl rfl (nI_1 _) rfl rfl ?_
      refine JV.goto rfl ?_
      subst hx
      exact ih (j + 1) _ (by omega) ((MW.same iv hW (by decide)).trans hN) iv hc2
theorem lq_X7_arrivals_2 {d n c s b : Nat} {M : JM} {o : JO} {hf : JH} {B : Nat} {m0 : Mem} {N : Nat} {m : Mem} (hd : 4 ≤ d) (hB : B + 0 < 2147483648) (hNc : N ≤ 12) (hN : m 1 0 2 = nI N) (hW : MW (B + 0 * 0) m0 m) (hc : JV (Ev mtab mcode d) jcX7_arrivals (105, [(0, .ref b)], []) (n, c, s, mm b (lf_X7_arrivals_2 N m) M) o hf) : JV (Ev mtab mcode d) jcX7_arrivals (2, [(0, .ref b), (1, .int 0)], []) (n, c, s, mm b m M) o hf := by
  rw [lf_X7_arrivals_2_eq] at hc
  unfold ly_X7_arrivals_2 at hc
  exact lp_X7_arrivals_2 (B := B) (m0 := m0) hd hB hNc N 0 m (by omega) hN hW hc
noncomputable def y_X7_arrivals (m : Mem) : Mem := (lf_X7_arrivals_2 (ix (m 1 0 2)) m)
theorem xe_X7_arrivals : ∃ f, f = y_X7_arrivals := ⟨y_X7_arrivals, rfl⟩
noncomputable def x_X7_arrivals := Classical.choose xe_X7_arrivals
theorem x_X7_arrivals_eq : x_X7_arrivals = y_X7_arrivals := Classical.choose_spec xe_X7_arrivals
theorem ev_X7_arrivals {d n c s b : Nat} {m : Mem} {M : JM} {B : Nat} {m0 : Mem} {res : Mem} (hd : 5 ≤ d) (hW : MW B m0 m) (hB : B + 0 < 2147483648) (hx : x_X7_arrivals m = res) : Ev mtab mcode d 119 [.ref b] (n, c, s, mm b m M) (.inl none) (n, c, s, mm b res M) := by
  obtain ⟨d, rfl⟩ : ∃ e, d = e + 1 := ⟨d - 1, by omega⟩
  rw [x_X7_arrivals_eq] at hx
  unfold y_X7_arrivals at hx
  refine jv_mk (m := mX7_arrivals) (cd := jcX7_arrivals) rfl rfl (Nat.le_of_ble_eq_true rfl) trivial ?_
  refine JV.stk (len := 1) (sem := (s_push (.int 0))) (p2 := 1) rfl rfl rfl ?_
  refine JV.ist (p2 := 2) rfl rfl rfl ?_
  refine lq_X7_arrivals_2 (m := m) (N := (ix (m 1 0 2))) (B := B) (m0 := m0) (by omega) (by omega) hW.1.na.2 (MW.cN hW hW (by decide)) (MW.mono hW (by omega)) ?_
  subst hx
  exact JV.ret rfl (fun _ => rfl) rfl rfl
theorem fw_X7_arrivals {m : Mem} {B : Nat} {m0 : Mem} (hW : MW B m0 m) (hB : B + 0 < 2147483648) : MW (B + 0) m0 (x_X7_arrivals m) := by
  rw [x_X7_arrivals_eq]
  unfold y_X7_arrivals
  exact MW.mono (MW.mono (fl_X7_arrivals_2 (m := m) (N := (ix (m 1 0 2))) (B := B) (m0 := m0) (by omega) hW.1.na.2 (MW.mono hW (by omega))) (B' := B + 0) (by have hc9 := hW.1.na.2; omega)) (by omega)
noncomputable def bd_X7_towing_2 (j : Nat) (m : Mem) : Mem := (if (x_X7_of m j 5) = 2 then (if ((m 1 0 3) + 30) < (x_X7_of m j 3) then (if (x_X7_standFor m j) = (-1) then m else (if (x_X7_tugFor m j) = (-1) then m else (x_X7_writes (up3 (up3 (x_X7_takes m (ix (x_X7_tugFor m j)) (nI j) 10 4) 1 0 (35 + 10 * j + 5) 3) 1 0 (35 + 10 * j + 6) (x_X7_standFor m j)) 5 (nI j)))) else m) else m)
noncomputable def ly_X7_towing_2 (N : Nat) (m : Mem) : Mem := itr (fun jz s => bd_X7_towing_2 jz s) N 0 m
theorem le_X7_towing_2 : ∃ f, f = ly_X7_towing_2 := ⟨ly_X7_towing_2, rfl⟩
noncomputable def lf_X7_towing_2 := Classical.choose le_X7_towing_2
theorem lf_X7_towing_2_eq : lf_X7_towing_2 = ly_X7_towing_2 := Classical.choose_spec le_X7_towing_2
theorem fb_X7_towing_2 {B : Nat} {m0 : Mem} (hB : B + 0 < 2147483648) {j : Nat} {m : Mem} (hjN : j < 12) (hW : MW (B + 0 * j) m0 m) : (MW (B + 0 * (j + 1)) m0 (bd_X7_towing_2 j m)) := by
  unfold bd_X7_towing_2
  by_cases h19 : (x_X7_of m j 5) = 2
  · rw [if_pos h19]
    by_cases h37 : ((m 1 0 3) + 30) < (x_X7_of m j 3)
    · rw [if_pos h37]
      by_cases h54 : (x_X7_standFor m j) = (-1)
      · rw [if_pos h54]
        exact (MW.mono hW (by omega))
      · rw [if_neg h54]
        by_cases h59 : (x_X7_tugFor m j) = (-1)
        · rw [if_pos h59]
          exact (MW.mono hW (by omega))
        · rw [if_neg h59]
          have b62 : ix (x_X7_tugFor m j) < 3 := VX.lt (vx_X7_tugFor hW.1 (by omega)) h59
          exact (MW.mono (fw_X7_writes (MW.up (MW.up (fw_X7_takes (t := (ix (x_X7_tugFor m j))) (w := 4) (VX.eq (vx_X7_tugFor hW.1 (by omega)) h59) rfl hW (by omega) (by omega) (by omega) (VX_nI (by omega) (by decide))) (by unfold mok; omega)) (by unfold mok; omega)) (by omega)) (by omega))
    · rw [if_neg h37]
      exact (MW.mono hW (by omega))
  · rw [if_neg h19]
    exact (MW.mono hW (by omega))
theorem fl_X7_towing_2 {B : Nat} {m0 : Mem} {N : Nat} (hB : B + 0 < 2147483648) {m : Mem} (hNc : N ≤ 12) (hW : MW (B + 0 * 0) m0 m) : (MW (B + 0 * N) m0 (lf_X7_towing_2 N m)) := by
  rw [lf_X7_towing_2_eq]
  unfold ly_X7_towing_2
  exact itr_inv (n := N) (s := m) (P := fun jz s => (MW (B + 0 * jz) m0 s)) (fun jz s => bd_X7_towing_2 jz s) (fun jz s hj hs => fb_X7_towing_2 (B := B) (m0 := m0) hB (j := jz) (m := s) (by omega) hs) hW
theorem lp_X7_towing_2 {d n c s b : Nat} {M : JM} {o : JO} {hf : JH} {B : Nat} {m0 : Mem} {N : Nat} (hd : 4 ≤ d) (hB : B + 0 < 2147483648) (hNc : N ≤ 12) : ∀ (k j : Nat) (m : Mem), j + k = N → m 1 0 2 = nI N → (MW (B + 0 * j) m0 m) → JV (Ev mtab mcode d) jcX7_towing (106, [(0, .ref b)], []) (n, c, s, mm b (itr (fun jz s => bd_X7_towing_2 jz s) k j m) M) o hf → JV (Ev mtab mcode d) jcX7_towing (2, [(0, .ref b), (1, .int (nI j))], []) (n, c, s, mm b m M) o hf := by
  intro k
  induction k with
  | zero =>
    intro j m hj hN hW hc
    refine JV.ild (p2 := 3) rfl rfl rfl ?_
    refine JV.ald (p2 := 4) rfl rfl rfl ?_
    refine JV.getf (p2 := 7) rfl mm_M rfl rfl ?_
    refine JV.stk (len := 1) (sem := (s_push (.int 2))) (p2 := 8) rfl rfl rfl ?_
    refine JV.iald (p2 := 9) (j := 2) rfl mm_1 rfl (by omega) (by decide) rfl ?_
    refine JV.brT rfl rfl (by rw [hN]; exact nI_le (a := N) (b := j) (by omega) (by omega)) ?_
    exact JV.keep [0] rfl hc
  | succ k ih =>
    intro j m hj hN hW hc
    obtain ⟨s1, hx⟩ : ∃ s1, bd_X7_towing_2 j m = s1 := ⟨_, rfl⟩
    have hc2 : JV (Ev mtab mcode d) jcX7_towing (106, [(0, .ref b)], []) (n, c, s, mm b (itr (fun jz s => bd_X7_towing_2 jz s) k (j + 1) s1) M) o hf := by
      subst hx
      exact hc
    clear hc
    have iv := fb_X7_towing_2 (B := B) (m0 := m0) hB (j := j) (m := m) (by omega) hW
    rw [hx] at iv
    unfold bd_X7_towing_2 at hx
    refine JV.ild (p2 := 3) rfl rfl rfl ?_
    refine JV.ald (p2 := 4) rfl rfl rfl ?_
    refine JV.getf (p2 := 7) rfl mm_M rfl rfl ?_
    refine JV.stk (len := 1) (sem := (s_push (.int 2))) (p2 := 8) rfl rfl rfl ?_
    refine JV.iald (p2 := 9) (j := 2) rfl mm_1 rfl (by omega) (by decide) rfl ?_
    refine JV.brF (p2 := 12) rfl rfl rfl (by rw [hN]; exact nI_ge (a := j) (b := N) (by omega) (by omega)) ?_
    refine JV.ald (p2 := 13) rfl rfl rfl ?_
    refine JV.ild (p2 := 14) rfl rfl rfl ?_
    refine JV.stk (len := 1) (sem := (s_push (.int 5))) (p2 := 15) rfl rfl rfl ?_
    refine JV.invI (p2 := 18) rfl rfl rfl mm_M (Nat.le_of_ble_eq_true rfl) rfl (ev_X7_of (q := j) (w := 5) (by omega) rfl rfl (by omega) (by omega) rfl) ?_
    refine JV.stk (len := 1) (sem := (s_push (.int 2))) (p2 := 19) rfl rfl rfl ?_
    by_cases h19 : (x_X7_of m j 5) = 2
    · rw [if_pos h19] at hx
      refine JV.brF (p2 := 22) rfl rfl rfl (fun e => e h19) ?_
      refine JV.ald (p2 := 23) rfl rfl rfl ?_
      refine JV.ild (p2 := 24) rfl rfl rfl ?_
      refine JV.stk (len := 1) (sem := (s_push (.int 3))) (p2 := 25) rfl rfl rfl ?_
      refine JV.invI (p2 := 28) rfl rfl rfl mm_M (Nat.le_of_ble_eq_true rfl) rfl (ev_X7_of (q := j) (w := 3) (by omega) rfl rfl (by omega) (by omega) rfl) ?_
      refine JV.ald (p2 := 29) rfl rfl rfl ?_
      refine JV.getf (p2 := 32) rfl mm_M rfl rfl ?_
      refine JV.stk (len := 1) (sem := (s_push (.int 3))) (p2 := 33) rfl rfl rfl ?_
      refine JV.iald (p2 := 34) (j := 3) rfl mm_1 rfl (by omega) (by decide) rfl ?_
      refine JV.stk (len := 2) (sem := (s_push (.int 30))) (p2 := 36) rfl rfl rfl ?_
      refine JV.stk (len := 1) (sem := s_iadd) (p2 := 37) rfl rfl rfl ?_
      by_cases h37 : ((m 1 0 3) + 30) < (x_X7_of m j 3)
      · rw [if_pos h37] at hx
        refine JV.brF (p2 := 40) rfl rfl rfl (Int32.not_le.mpr h37) ?_
        refine JV.ald (p2 := 41) rfl rfl rfl ?_
        refine JV.ild (p2 := 42) rfl rfl rfl ?_
        refine JV.invI (p2 := 45) rfl rfl rfl mm_M (Nat.le_of_ble_eq_true rfl) rfl (ev_X7_standFor (q := j) (by omega) rfl hW.1 (by omega) rfl) ?_
        refine JV.ist (p2 := 46) rfl rfl rfl ?_
        refine JV.ald (p2 := 47) rfl rfl rfl ?_
        refine JV.ild (p2 := 48) rfl rfl rfl ?_
        refine JV.invI (p2 := 51) rfl rfl rfl mm_M (Nat.le_of_ble_eq_true rfl) rfl (ev_X7_tugFor (q := j) (by omega) rfl hW.1 (by omega) rfl) ?_
        refine JV.ist (p2 := 52) rfl rfl rfl ?_
        refine JV.ild (p2 := 53) rfl rfl rfl ?_
        refine JV.stk (len := 1) (sem := (s_push (.int (-1)))) (p2 := 54) rfl rfl rfl ?_
        by_cases h54 : (x_X7_standFor m j) = (-1)
        · rw [if_pos h54] at hx
          refine JV.brT rfl rfl h54 ?_
          refine JV.iinc (p2 := 103) rfl rfl (nI_1 _) rfl rfl ?_
          refine JV.goto rfl ?_
          refine JV.keep [0, 1] rfl ?_
          subst hx
          exact ih (j + 1) _ (by omega) ((MW.same iv hW (by decide)).trans hN) iv hc2
        · rw [if_neg h54] at hx
          refine JV.brF (p2 := 57) rfl rfl rfl h54 ?_
          refine JV.ild (p2 := 58) rfl rfl rfl ?_
          refine JV.stk (len := 1) (sem := (s_push (.int (-1)))) (p2 := 59) rfl rfl rfl ?_
          by_cases h59 : (x_X7_tugFor m j) = (-1)
          · rw [if_pos h59] at hx
            refine JV.brT rfl rfl h59 ?_
            refine JV.iinc (p2 := 103) rfl rfl (nI_1 _) rfl rfl ?_
            refine JV.goto rfl ?_
            refine JV.keep [0, 1] rfl ?_
            subst hx
            exact ih (j + 1) _ (by omega) ((MW.same iv hW (by decide)).trans hN) iv hc2
          · rw [if_neg h59] at hx
            refine JV.brF (p2 := 62) rfl rfl rfl h59 ?_
            have b62 : ix (x_X7_tugFor m j) < 3 := VX.lt (vx_X7_tugFor hW.1 (by omega)) h59
            refine JV.ald (p2 := 63) rfl rfl rfl ?_
            refine JV.ild (p2 := 64) rfl rfl rfl ?_
            refine JV.ild (p2 := 65) rfl rfl rfl ?_
            refine JV.stk (len := 2) (sem := (s_push (.int 10))) (p2 := 67) rfl rfl rfl ?_
            refine JV.stk (len := 1) (sem := (s_push (.int 4))) (p2 := 68) rfl rfl rfl ?_
            refine JV.inv0 (p2 := 71) rfl rfl rfl mm_M (Nat.le_of_ble_eq_true rfl) rfl (ev_X7_takes (t := (ix (x_X7_tugFor m j))) (w := 4) (by omega) (VX.eq (vx_X7_tugFor hW.1 (by omega)) h59) rfl hW (by omega) (by omega) (by omega) (VX_nI (by omega) (by decide)) rfl) ?_
            refine JV.ald (p2 := 72) rfl rfl rfl ?_
            refine JV.getf (p2 := 75) rfl mm_M rfl rfl ?_
            refine JV.ild (p2 := 76) rfl rfl rfl ?_
            refine JV.stk (len := 1) (sem := (s_push (.int 5))) (p2 := 77) rfl rfl rfl ?_
            refine JV.insI (p2 := 80) rfl (Nat.le_of_ble_eq_true rfl) rfl rfl (Nat.le_of_ble_eq_true rfl) rfl (ev_X7_planeAt (by omega) rfl) rfl ?_
            refine JV.stk (len := 1) (sem := (s_push (.int 3))) (p2 := 81) rfl rfl rfl ?_
            refine JV.iast (p2 := 82) (j := (35 + 10 * j + 5)) rfl mm_1 (pa_at rfl rfl) (by omega) (by decide) (mm_w1 (k := (35 + 10 * j + 5)) rfl) rfl ?_
            refine JV.ald (p2 := 83) rfl rfl rfl ?_
            refine JV.getf (p2 := 86) rfl mm_M rfl rfl ?_
            refine JV.ild (p2 := 87) rfl rfl rfl ?_
            refine JV.stk (len := 2) (sem := (s_push (.int 6))) (p2 := 89) rfl rfl rfl ?_
            refine JV.insI (p2 := 92) rfl (Nat.le_of_ble_eq_true rfl) rfl rfl (Nat.le_of_ble_eq_true rfl) rfl (ev_X7_planeAt (by omega) rfl) rfl ?_
            refine JV.ild (p2 := 93) rfl rfl rfl ?_
            refine JV.iast (p2 := 94) (j := (35 + 10 * j + 6)) rfl mm_1 (pa_at rfl rfl) (by omega) (by decide) (mm_w1 (k := (35 + 10 * j + 6)) rfl) rfl ?_
            refine JV.ald (p2 := 95) rfl rfl rfl ?_
            refine JV.stk (len := 1) (sem := (s_push (.int 5))) (p2 := 96) rfl rfl rfl ?_
            refine JV.ild (p2 := 97) rfl rfl rfl ?_
            refine JV.inv0 (p2 := 100) rfl rfl rfl mm_M (Nat.le_of_ble_eq_true rfl) rfl (ev_X7_writes (by omega) (MW.up (MW.up (fw_X7_takes (t := (ix (x_X7_tugFor m j))) (w := 4) (VX.eq (vx_X7_tugFor hW.1 (by omega)) h59) rfl hW (by omega) (by omega) (by omega) (VX_nI (by omega) (by decide))) (by unfold mok; omega)) (by unfold mok; omega)) (by omega) rfl) ?_
            refine JV.iinc (p2 := 103) rfl rfl (nI_1 _) rfl rfl ?_
            refine JV.goto rfl ?_
            refine JV.keep [0, 1] rfl ?_
            subst hx
            exact ih (j + 1) _ (by omega) ((MW.same iv hW (by decide)).trans hN) iv hc2
      · rw [if_neg h37] at hx
        refine JV.brT rfl rfl (Int32.not_lt.mp h37) ?_
        refine JV.iinc (p2 := 103) rfl rfl (nI_1 _) rfl rfl ?_
        refine JV.goto rfl ?_
        subst hx
        exact ih (j + 1) _ (by omega) ((MW.same iv hW (by decide)).trans hN) iv hc2
    · rw [if_neg h19] at hx
      refine JV.brT rfl rfl h19 ?_
      refine JV.iinc (p2 := 103) rfl rfl (nI_1 _) rfl rfl ?_
      refine JV.goto rfl ?_
      subst hx
      exact ih (j + 1) _ (by omega) ((MW.same iv hW (by decide)).trans hN) iv hc2
theorem lq_X7_towing_2 {d n c s b : Nat} {M : JM} {o : JO} {hf : JH} {B : Nat} {m0 : Mem} {N : Nat} {m : Mem} (hd : 4 ≤ d) (hB : B + 0 < 2147483648) (hNc : N ≤ 12) (hN : m 1 0 2 = nI N) (hW : MW (B + 0 * 0) m0 m) (hc : JV (Ev mtab mcode d) jcX7_towing (106, [(0, .ref b)], []) (n, c, s, mm b (lf_X7_towing_2 N m) M) o hf) : JV (Ev mtab mcode d) jcX7_towing (2, [(0, .ref b), (1, .int 0)], []) (n, c, s, mm b m M) o hf := by
  rw [lf_X7_towing_2_eq] at hc
  unfold ly_X7_towing_2 at hc
  exact lp_X7_towing_2 (B := B) (m0 := m0) hd hB hNc N 0 m (by omega) hN hW hc
noncomputable def y_X7_towing (m : Mem) : Mem := (lf_X7_towing_2 (ix (m 1 0 2)) m)
theorem xe_X7_towing : ∃ f, f = y_X7_towing := ⟨y_X7_towing, rfl⟩
noncomputable def x_X7_towing := Classical.choose xe_X7_towing
theorem x_X7_towing_eq : x_X7_towing = y_X7_towing := Classical.choose_spec xe_X7_towing
theorem ev_X7_towing {d n c s b : Nat} {m : Mem} {M : JM} {B : Nat} {m0 : Mem} {res : Mem} (hd : 5 ≤ d) (hW : MW B m0 m) (hB : B + 0 < 2147483648) (hx : x_X7_towing m = res) : Ev mtab mcode d 126 [.ref b] (n, c, s, mm b m M) (.inl none) (n, c, s, mm b res M) := by
  obtain ⟨d, rfl⟩ : ∃ e, d = e + 1 := ⟨d - 1, by omega⟩
  rw [x_X7_towing_eq] at hx
  unfold y_X7_towing at hx
  refine jv_mk (m := mX7_towing) (cd := jcX7_towing) rfl rfl (Nat.le_of_ble_eq_true rfl) trivial ?_
  refine JV.stk (len := 1) (sem := (s_push (.int 0))) (p2 := 1) rfl rfl rfl ?_
  refine JV.ist (p2 := 2) rfl rfl rfl ?_
  refine lq_X7_towing_2 (m := m) (N := (ix (m 1 0 2))) (B := B) (m0 := m0) (by omega) (by omega) hW.1.na.2 (MW.cN hW hW (by decide)) (MW.mono hW (by omega)) ?_
  subst hx
  exact JV.ret rfl (fun _ => rfl) rfl rfl
theorem fw_X7_towing {m : Mem} {B : Nat} {m0 : Mem} (hW : MW B m0 m) (hB : B + 0 < 2147483648) : MW (B + 0) m0 (x_X7_towing m) := by
  rw [x_X7_towing_eq]
  unfold y_X7_towing
  exact MW.mono (MW.mono (fl_X7_towing_2 (m := m) (N := (ix (m 1 0 2))) (B := B) (m0 := m0) (by omega) hW.1.na.2 (MW.mono hW (by omega))) (B' := B + 0) (by have hc9 := hW.1.na.2; omega)) (by omega)
