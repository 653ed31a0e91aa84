/-! passSome is so many minutes -/
section PSS
variable {m μ x y : Mem} {B j p q k N P t : Nat} {w a b c : Int32}
noncomputable def PS (m : Mem) (p1 Q : Int32) : Mem × Int32 := (up3 (x_X1_countMinutes (lf_X1_passSome_55 p1 (m 4 0 0) Q (ix (m 0 0 1)) (x_X1_tow (x_X1_pushBack (x_X1_receive (x_X1_workTugs m))))) (1 + Q)) 0 0 3 (x_X1_countMinutes (lf_X1_passSome_55 p1 (m 4 0 0) Q (ix (m 0 0 1)) (x_X1_tow (x_X1_pushBack (x_X1_receive (x_X1_workTugs m))))) (1 + Q) 0 0 3 + (1 + Q)), 1 + Q)
theorem ps_1 : x_X1_tow (x_X1_pushBack (x_X1_receive (x_X1_workTugs m))) 4 0 0 = m 4 0 0 → x_X1_passSome m a = PS m a (if 0 < (if (a - 1) < (x_X1_quietMinutes (x_X1_tow (x_X1_pushBack (x_X1_receive (x_X1_workTugs m))))) then (a - 1) else (x_X1_quietMinutes (x_X1_tow (x_X1_pushBack (x_X1_receive (x_X1_workTugs m)))))) then (if (a - 1) < (x_X1_quietMinutes (x_X1_tow (x_X1_pushBack (x_X1_receive (x_X1_workTugs m))))) then (a - 1) else (x_X1_quietMinutes (x_X1_tow (x_X1_pushBack (x_X1_receive (x_X1_workTugs m)))))) else 0) := fun h => by
  rw [x_X1_passSome_eq]
  unfold y_X1_passSome
  rw [if_pos h]
  rfl
theorem ps_0 : ¬ x_X1_tow (x_X1_pushBack (x_X1_receive (x_X1_workTugs m))) 4 0 0 = m 4 0 0 → x_X1_passSome m a = PS m a 0 := fun h => by
  rw [x_X1_passSome_eq]
  unfold y_X1_passSome
  rw [if_neg h]
  rfl
theorem ps_M1 : PS m a 0 = (M1 m, 1) := by
  unfold PS M1
  rw [dec_0, show (1 : Int32) + 0 = 1 by decide]
theorem wt_zz (hw : ∀ f i z, x f i z = m f i z - dh m N f i z) : ZZ x ↔ (∀ p, p < ix (m 0 0 2) → m 3 p 5 = 0 → m 0 0 3 < m 3 p 2) ∧ (∀ p, p < ix (m 0 0 2) → ¬ x_X1_reason x p = 0) ∧ ∀ p, p < ix (m 0 0 2) → m 3 p 5 = 2 → m 0 0 3 + 30 < m 3 p 3 → x_X1_freeStandFor m (m 3 p 0) = -1 ∨ x_X1_freeTugFor m (m 3 p 1) = -1 := by
  have ag := agr_wt hw
  have e3 : x 0 0 3 = m 0 0 3 := by
    rw [hw]
    unfold dh
    rw [if_neg (by omega)]
    simp
  unfold ZZ
  simp only [ag.1 2 (by decide), e3, ag.2.2.2 _ 5 (by decide), ag.2.2.2 _ 2 (by decide), ag.2.2.2 _ 3 (by decide), ag.2.2.2 _ 0 (by decide), ag.2.2.2 _ 1 (by decide), fs_agr ag, ft_agr ag]
theorem ps_ok (h : RB B m μ) (hB : B + 39 * P + 39 < 2 ^ 31) (hP : 1 ≤ P) (hP2 : P ≤ 3000) (ht : ix (m 0 0 3) + P ≤ 13000) : ∃ k, 1 ≤ k ∧ k ≤ P ∧ x_X1_passSome m (nI P) = (MK1 k m, nI k) ∧ ∀ i, i < k → ∀ p z, z ≠ 8 → MK1 i m 3 p z = m 3 p z := by
  have bs := h.1.2.ns.2
  have bt := h.1.2.nt.2
  have ba := h.1.2.na.2
  by_cases he : x_X1_tow (x_X1_pushBack (x_X1_receive (x_X1_workTugs m))) 4 0 0 = m 4 0 0
  · -- no event: each phase left everything
    have w1 := ne_wt h.2 (by omega) bt
    have r1 := wt_ok h (by omega)
    have w2 := ne_rc (m := x_X1_workTugs m) w1.2.1 (by omega) (by rw [r1.2]; exact ba)
    have r2 := rc_ok r1.1 (by omega)
    have w3 := pb_ok r2.1 (by omega)
    have w4 := ne_tw (m := x_X1_pushBack (x_X1_receive (x_X1_workTugs m))) w3.1.2 (by omega) (by rw [w3.2.1, r2.2, r1.2]; exact ba)
    have he' : ix (x_X1_tow (x_X1_pushBack (x_X1_receive (x_X1_workTugs m))) 4 0 0) = ix (m 4 0 0) := congrArg ix he
    have t4 := w4.2 (by have := w1.1; have := w2.1; have := w3.2.2.1; have := w4.1; omega)
    have t3 := w3.2.2.2 (by have := w1.1; have := w2.1; have := w3.2.2.1; have := w4.1; omega)
    have t2 := w2.2.2 (by have := w1.1; have := w2.1; have := w3.2.2.1; have := w4.1; omega)
    have t1 := w1.2.2 (by have := w1.1; have := w2.1; have := w3.2.2.1; have := w4.1; omega)
    have eM : x_X1_tow (x_X1_pushBack (x_X1_receive (x_X1_workTugs m))) = x_X1_workTugs m := by rw [t4.1, t3.1, t2.1]
    have Z0 : ZZ (x_X1_workTugs m) := by
      rw [t2.1] at t3
      rw [t2.1, t3.1] at t4
      exact ⟨t2.2, t3.2, t4.2⟩
    have I0 := r1.1.1.2
    have hw := t1.1
    have ag0 := agr_wt hw
    have e3 : x_X1_workTugs m 0 0 3 = m 0 0 3 := by rw [r1.2]
    obtain ⟨n, en, hn, n1, n2, n3, n4⟩ := qm_ok I0
    rw [e3] at en n1 n3 n4
    obtain ⟨q, eq, hq, hq2⟩ := q_ok h.1.2.mi hn hP hP2
    rw [ps_1 he, eM, en, eq]
    have eA : PS m (nI P) (nI q) = (adv (1 + nI q) m, 1 + nI q) := by
      unfold PS
      rw [eM, adv_of hw]
    rw [eA]
    have e1q : (1 : Int32) + nI q = nI (q + 1) := by rw [show (1 : Int32) = nI 1 from rfl, nI_add, Nat.add_comm]
    rw [e1q]
    refine ⟨q + 1, by omega, by omega, ?_⟩
    have go : ∀ i, i ≤ q → MK1 (i + 1) m = adv (nI (i + 1)) m := by
      intro i
      induction i with
      | zero =>
        intro _
        show M1 m = adv 1 m
        exact m1_idle h (by omega) t1.2 Z0
      | succ i ih =>
        intro hi
        have ei := ih (by omega)
        have mk := mk_ok h (i + 1) (by omega) (by omega)
        rw [mk1_s, ei]
        rw [ei] at mk
        have hq3 : ix (m 0 0 3) + q + 1 ≤ n := hq2.resolve_left (by omega)
        -- the tugs go on
        have lft : ∀ t, t < ix (m 0 0 1) → ¬ m 2 t 1 = -1 → i + 3 ≤ ix (m 2 t 2) ∧ adv (nI (i + 1)) m 2 t 2 = nI (ix (m 2 t 2) - (i + 1)) := fun t htt hb => by
          have vt := (h.1.2.2.2.1 t htt).2.1
          have a1 := n1 t (by rw [ag0.1 1 (by decide)]; exact htt) (by rw [ag0.2.2.1 t 1 (by decide)]; exact hb)
          have d1 : dh m (ix (m 0 0 1)) 2 t 2 = 1 := by
            unfold dh
            rw [if_pos ⟨rfl, rfl, htt⟩, if_neg hb]
          have v1 : x_X1_workTugs m 2 t 2 = m 2 t 2 - 1 := by rw [hw, d1]
          have nz : ix (m 2 t 2) ≠ 0 := fun z => (h.1.2.2.2.1 t htt).2.2 hb (by rw [vt.1, z]; rfl)
          have v2 : ix (m 2 t 2 - 1) = ix (m 2 t 2) - 1 := by
            conv => lhs; rw [vt.1]
            rw [show nI (ix (m 2 t 2)) - 1 = nI (ix (m 2 t 2) - 1) from pk_sub (b := 1) (by omega), ix_nI (by have := vt.2; omega)]
          rw [v1, v2] at a1
          refine ⟨by omega, ?_⟩
          show m 2 t 2 + nI (i + 1) * em m 2 t 2 = _
          have e2 : em m 2 t 2 = -1 := by
            unfold em
            rw [ht0 (by omega) (by omega), if_neg (by omega), d1]
            decide
          rw [e2]
          conv => lhs; lhs; rw [vt.1]
          rw [← pk_sub (a := ix (m 2 t 2)) (b := i + 1) (by omega), Int32.sub_eq_add_neg]
          congr 1
          rw [Int32.mul_neg, Int32.mul_one]
        have am : AGR (adv (nI (i + 1)) m) m := agr_adv
        have tug : ∀ t, t < ix (adv (nI (i + 1)) m 0 0 1) → ¬ adv (nI (i + 1)) m 2 t 1 = -1 → ¬ adv (nI (i + 1)) m 2 t 2 - 1 = 0 := fun t htt hb => by
          rw [am.1 1 (by decide)] at htt
          rw [am.2.2.1 t 1 (by decide)] at hb
          have l := lft t htt hb
          have vt := (h.1.2.2.2.1 t htt).2.1.2
          rw [l.2, show nI (ix (m 2 t 2) - (i + 1)) - 1 = nI (ix (m 2 t 2) - (i + 1) - 1) from pk_sub (b := 1) (by omega)]
          exact nI_ne0 (by omega) (by omega)
        have r := wt_ok mk.1 (by omega)
        have hw2 := wt_idle mk.1.2 tug
        have Zi : ZZ (x_X1_workTugs (adv (nI (i + 1)) m)) := by
          rw [wt_zz hw2]
          have ag2 : AGR (x_X1_workTugs (adv (nI (i + 1)) m)) (x_X1_workTugs m) := ((agr_wt hw2).trans am).trans ag0.symm
          have mi := mk.2.2
          have vmi := mk.1.1.2.mi
          have vm := h.1.2.mi
          have e23 : x_X1_workTugs (adv (nI (i + 1)) m) 0 0 3 = adv (nI (i + 1)) m 0 0 3 := by rw [r.2]
          rw [am.1 2 (by decide)]
          refine ⟨fun p hp h5 => ?_, fun p hp => ?_, fun p hp h5 h3 => ?_⟩
          · rw [am.2.2.2 p 5 (by decide)] at h5
            rw [am.2.2.2 p 2 (by decide)]
            have a2 := n2 p (by rw [ag0.1 2 (by decide)]; exact hp) (by rw [ag0.2.2.2 p 5 (by decide)]; exact h5)
            rw [ag0.2.2.2 p 2 (by decide)] at a2
            exact (vn_nlt vmi (h.1.2.2.2.2 p hp).1 (by decide) (by decide)).mpr (by omega)
          · have c1 : x_X1_isCurfew (x_X1_workTugs (adv (nI (i + 1)) m)) = true ∨ x_X1_isCurfew (x_X1_workTugs m) = false := by
              cases hc : x_X1_isCurfew (x_X1_workTugs m) with
              | false => exact Or.inr rfl
              | true =>
                left
                have a4 := n4 hc
                have k5 : ix (x_X1_workTugs m 0 0 5) ≤ 1440 := I0.1.2.2.2.2.2.1.2
                rw [cur_n I0, e3] at hc
                rw [cur_n r.1.1.2, e23, ag2.1 4 (by decide), ag2.1 5 (by decide), mi]
                omega
            by_cases hpl : (m 3 p 5 = 1 ∨ m 3 p 5 = 2) ∧ m 0 0 3 < m 3 p 3
            · refine re_agr ag2 (Or.inl ?_) c1 (Z0.2.1 p (by rw [ag0.1 2 (by decide)]; exact hp))
              have a3 := n3 p (by rw [ag0.1 2 (by decide)]; exact hp) (by rw [ag0.2.2.2 p 5 (by decide)]; exact hpl.1) (by rw [ag0.2.2.2 p 3 (by decide)]; exact hpl.2)
              rw [ag0.2.2.2 p 3 (by decide)] at a3
              rw [e23, (agr_wt hw2).2.2.2 p 3 (by decide), am.2.2.2 p 3 (by decide)]
              exact (vn_nlt vmi (h.1.2.2.2.2 p hp).2.1 (by decide) (by decide)).mpr (by omega)
            · by_cases hl : m 0 0 3 < m 3 p 3
              · -- neither on a stand nor on a bay
                intro z
                have ca := re0 z
                rw [ag2.2.2.2 p 5 (by decide), ag0.2.2.2 p 5 (by decide)] at ca
                exact hpl ⟨ca.1, hl⟩
              · refine re_agr ag2 (Or.inr ?_) c1 (Z0.2.1 p (by rw [ag0.1 2 (by decide)]; exact hp))
                rw [e3, ag0.2.2.2 p 3 (by decide)]
                exact hl
          · rw [am.2.2.2 p 5 (by decide)] at h5
            rw [am.2.2.2 p 3 (by decide)] at h3
            rw [am.2.2.2 p 0 (by decide), am.2.2.2 p 1 (by decide), fs_agr am, ft_agr am]
            have z3 := ((wt_zz hw).mp Z0).2.2 p hp h5
            refine z3 ?_
            have a30 : VN 30 (30 : Int32) := ⟨by decide +kernel, by decide +kernel⟩
            have s1 := vn_add vmi a30 (by decide)
            have s2 := vn_add vm a30 (by decide)
            have vl := (h.1.2.2.2.2 p hp).2.1
            rw [vn_nlt s1.1 vl (by decide) (by decide), s1.2, mi] at h3
            rw [vn_nlt s2.1 vl (by decide) (by decide), s2.2]
            omega
        rw [m1_idle mk.1 (by omega) tug Zi, adv_adv, show nI (i + 1) + 1 = nI (i + 1 + 1) from nI_1 _]
    refine ⟨by rw [go q (Nat.le_refl q)], fun i hi p z hz => ?_⟩
    cases i with
    | zero => rfl
    | succ i =>
      rw [go i (by omega)]
      exact adv0 (by omega) (by omega) (by omega) (by omega)
  · rw [ps_0 he, ps_M1]
    refine ⟨1, Nat.le_refl 1, hP, rfl, fun i hi p z _ => ?_⟩
    obtain rfl : i = 0 := by omega
    rfl
end PSS
