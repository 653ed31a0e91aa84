noncomputable def jy_X7_bestStand_j76 (m : Mem) (a1 : Int32) (a2 : Int32) (a3 : Int32) (a4 : Int32) (a5 : Int32) : Int32 × Int32 := (if a4 = 0 then (a1, a2) else (if a1 = (-1) then (a3, a5) else (if a5 < a2 then (a3, a5) else (a1, a2))))
theorem je_X7_bestStand_j76 : ∃ f, f = jy_X7_bestStand_j76 := ⟨jy_X7_bestStand_j76, rfl⟩
noncomputable def jf_X7_bestStand_j76 := Classical.choose je_X7_bestStand_j76
theorem jf_X7_bestStand_j76_eq : jf_X7_bestStand_j76 = jy_X7_bestStand_j76 := Classical.choose_spec je_X7_bestStand_j76
theorem ja_X7_bestStand_j76 {d n c s b : Nat} {M : JM} {o : JO} {hf : JH} {m : Mem} {a1 : Int32} {a2 : Int32} {a3 : Int32} {a4 : Int32} {a5 : Int32} (hc : JV (Ev mtab mcode d) jcX7_bestStand (122, [(0, .ref b), (1, .int ((jf_X7_bestStand_j76 m a1 a2 a3 a4 a5).1)), (2, .int ((jf_X7_bestStand_j76 m a1 a2 a3 a4 a5).2)), (3, .int a3), (4, .int a4), (5, .int a5)], []) (n, c, s, mm b m M) o hf) : JV (Ev mtab mcode d) jcX7_bestStand (76, [(0, .ref b), (1, .int a1), (2, .int a2), (3, .int a3), (4, .int a4), (5, .int a5)], []) (n, c, s, mm b m M) o hf := by
  obtain ⟨s1, hx⟩ : ∃ s1, jf_X7_bestStand_j76 m a1 a2 a3 a4 a5 = s1 := ⟨_, rfl⟩
  rw [hx] at hc
  rw [jf_X7_bestStand_j76_eq] at hx
  unfold jy_X7_bestStand_j76 at hx
  refine JV.ild (p2 := 78) rfl rfl rfl ?_
  by_cases h78 : a4 = 0
  · rw [if_pos h78] at hx
    refine JV.brT rfl rfl h78 ?_
    refine JV.stk (len := 1) (sem := (s_push (.int 0))) (p2 := 97) rfl rfl rfl ?_
    refine JV.ist (p2 := 99) rfl rfl rfl ?_
    refine JV.ild (p2 := 101) rfl rfl rfl ?_
    refine JV.brT rfl rfl (by decide) ?_
    refine JV.ild (p2 := 109) rfl rfl rfl ?_
    refine JV.ist (p2 := 110) rfl rfl rfl ?_
    refine JV.ild (p2 := 112) rfl rfl rfl ?_
    refine JV.brT rfl rfl (by decide) ?_
    refine JV.ild (p2 := 121) rfl rfl rfl ?_
    refine JV.ist (p2 := 122) rfl rfl rfl ?_
    subst hx
    exact JV.keep [0, 1, 2, 3, 4, 5] rfl hc
  · rw [if_neg h78] at hx
    refine JV.brF (p2 := 81) rfl rfl rfl h78 ?_
    refine JV.ild (p2 := 82) rfl rfl rfl ?_
    refine JV.stk (len := 1) (sem := (s_push (.int (-1)))) (p2 := 83) rfl rfl rfl ?_
    by_cases h83 : a1 = (-1)
    · rw [if_pos h83] at hx
      refine JV.brT rfl rfl h83 ?_
      refine JV.stk (len := 1) (sem := (s_push (.int 1))) (p2 := 93) rfl rfl rfl ?_
      refine JV.goto rfl ?_
      refine JV.ist (p2 := 99) rfl rfl rfl ?_
      refine JV.ild (p2 := 101) rfl rfl rfl ?_
      refine JV.brF (p2 := 104) rfl rfl rfl (by decide) ?_
      refine JV.ild (p2 := 105) rfl rfl rfl ?_
      refine JV.goto rfl ?_
      refine JV.ist (p2 := 110) rfl rfl rfl ?_
      refine JV.ild (p2 := 112) rfl rfl rfl ?_
      refine JV.brF (p2 := 115) rfl rfl rfl (by decide) ?_
      refine JV.ild (p2 := 117) rfl rfl rfl ?_
      refine JV.goto rfl ?_
      refine JV.ist (p2 := 122) rfl rfl rfl ?_
      subst hx
      exact JV.keep [0, 1, 2, 3, 4, 5] rfl hc
    · rw [if_neg h83] at hx
      refine JV.brF (p2 := 86) rfl rfl rfl h83 ?_
      refine JV.ild (p2 := 88) rfl rfl rfl ?_
      refine JV.ild (p2 := 89) rfl rfl rfl ?_
      by_cases h89 : a5 < a2
      · rw [if_pos h89] at hx
        refine JV.brF (p2 := 92) rfl rfl rfl (Int32.not_le.mpr h89) ?_
        refine JV.stk (len := 1) (sem := (s_push (.int 1))) (p2 := 93) rfl rfl rfl ?_
        refine JV.goto rfl ?_
        refine JV.ist (p2 := 99) rfl rfl rfl ?_
        refine JV.ild (p2 := 101) rfl rfl rfl ?_
        refine JV.brF (p2 := 104) rfl rfl rfl (by decide) ?_
        refine JV.ild (p2 := 105) rfl rfl rfl ?_
        refine JV.goto rfl ?_
        refine JV.ist (p2 := 110) rfl rfl rfl ?_
        refine JV.ild (p2 := 112) rfl rfl rfl ?_
        refine JV.brF (p2 := 115) rfl rfl rfl (by decide) ?_
        refine JV.ild (p2 := 117) rfl rfl rfl ?_
        refine JV.goto rfl ?_
        refine JV.ist (p2 := 122) rfl rfl rfl ?_
        subst hx
        exact JV.keep [0, 1, 2, 3, 4, 5] rfl hc
      · rw [if_neg h89] at hx
        refine JV.brT rfl rfl (Int32.not_lt.mp h89) ?_
        refine JV.stk (len := 1) (sem := (s_push (.int 0))) (p2 := 97) rfl rfl rfl ?_
        refine JV.ist (p2 := 99) rfl rfl rfl ?_
        refine JV.ild (p2 := 101) rfl rfl rfl ?_
        refine JV.brT rfl rfl (by decide) ?_
        refine JV.ild (p2 := 109) rfl rfl rfl ?_
        refine JV.ist (p2 := 110) rfl rfl rfl ?_
        refine JV.ild (p2 := 112) rfl rfl rfl ?_
        refine JV.brT rfl rfl (by decide) ?_
        refine JV.ild (p2 := 121) rfl rfl rfl ?_
        refine JV.ist (p2 := 122) rfl rfl rfl ?_
        subst hx
        exact JV.keep [0, 1, 2, 3, 4, 5] rfl hc
noncomputable def bd_X7_bestStand_6 (j : Nat) (m : Mem) (c1 : Int32) (c2 : Int32) : Mem × Int32 × Int32 := (if (m 1 0 (8 + 2 * j + 0)) < 4 then (if (x_X7_toAll (up3 (x_X7_laysAside m) 1 0 (8 + 2 * j + 0) (((x_X7_laysAside m) 1 0 (8 + 2 * j + 0)) + 1))).2 = (-1) then ((x_X7_takesBack ((x_X7_toAll (up3 (x_X7_laysAside m) 1 0 (8 + 2 * j + 0) (((x_X7_laysAside m) 1 0 (8 + 2 * j + 0)) + 1))).1)), ((jf_X7_bestStand_j76 (x_X7_takesBack ((x_X7_toAll (up3 (x_X7_laysAside m) 1 0 (8 + 2 * j + 0) (((x_X7_laysAside m) 1 0 (8 + 2 * j + 0)) + 1))).1)) c1 c2 (nI j) 0 ((x_X7_toAll (up3 (x_X7_laysAside m) 1 0 (8 + 2 * j + 0) (((x_X7_laysAside m) 1 0 (8 + 2 * j + 0)) + 1))).1 1 0 6)).1), ((jf_X7_bestStand_j76 (x_X7_takesBack ((x_X7_toAll (up3 (x_X7_laysAside m) 1 0 (8 + 2 * j + 0) (((x_X7_laysAside m) 1 0 (8 + 2 * j + 0)) + 1))).1)) c1 c2 (nI j) 0 ((x_X7_toAll (up3 (x_X7_laysAside m) 1 0 (8 + 2 * j + 0) (((x_X7_laysAside m) 1 0 (8 + 2 * j + 0)) + 1))).1 1 0 6)).2)) else ((x_X7_takesBack ((x_X7_toAll (up3 (x_X7_laysAside m) 1 0 (8 + 2 * j + 0) (((x_X7_laysAside m) 1 0 (8 + 2 * j + 0)) + 1))).1)), ((jf_X7_bestStand_j76 (x_X7_takesBack ((x_X7_toAll (up3 (x_X7_laysAside m) 1 0 (8 + 2 * j + 0) (((x_X7_laysAside m) 1 0 (8 + 2 * j + 0)) + 1))).1)) c1 c2 (nI j) 1 ((x_X7_toAll (up3 (x_X7_laysAside m) 1 0 (8 + 2 * j + 0) (((x_X7_laysAside m) 1 0 (8 + 2 * j + 0)) + 1))).1 1 0 6)).1), ((jf_X7_bestStand_j76 (x_X7_takesBack ((x_X7_toAll (up3 (x_X7_laysAside m) 1 0 (8 + 2 * j + 0) (((x_X7_laysAside m) 1 0 (8 + 2 * j + 0)) + 1))).1)) c1 c2 (nI j) 1 ((x_X7_toAll (up3 (x_X7_laysAside m) 1 0 (8 + 2 * j + 0) (((x_X7_laysAside m) 1 0 (8 + 2 * j + 0)) + 1))).1 1 0 6)).2))) else (m, c1, c2))
noncomputable def ly_X7_bestStand_6 (N : Nat) (m : Mem) (c1 : Int32) (c2 : Int32) : Mem × Int32 × Int32 := itr (fun jz s => bd_X7_bestStand_6 jz s.1 s.2.1 s.2.2) N 0 (m, c1, c2)
theorem le_X7_bestStand_6 : ∃ f, f = ly_X7_bestStand_6 := ⟨ly_X7_bestStand_6, rfl⟩
noncomputable def lf_X7_bestStand_6 := Classical.choose le_X7_bestStand_6
theorem lf_X7_bestStand_6_eq : lf_X7_bestStand_6 = ly_X7_bestStand_6 := Classical.choose_spec le_X7_bestStand_6
theorem fb_X7_bestStand_6 {B : Nat} {m0 : Mem} (hB : B + 0 < 2147483648) {j : Nat} {m : Mem} {c1 : Int32} {c2 : Int32} (hjN : j < 6) (hW : MW (B + 0 * j) m0 m) : (MW (B + 0 * (j + 1)) m0 (bd_X7_bestStand_6 j m c1 c2).1) := by
  unfold bd_X7_bestStand_6
  by_cases h27 : (m 1 0 (8 + 2 * j + 0)) < 4
  · rw [if_pos h27]
    by_cases h53 : (x_X7_toAll (up3 (x_X7_laysAside m) 1 0 (8 + 2 * j + 0) (((x_X7_laysAside m) 1 0 (8 + 2 * j + 0)) + 1))).2 = (-1)
    · rw [if_pos h53]
      try dsimp only
      exact (MW.mono (MW.congr hW (tb_la ((fr_toAll (by decide) (by decide)).trans (up3_fam (by decide))))) (by omega))
    · rw [if_neg h53]
      try dsimp only
      exact (MW.mono (MW.congr hW (tb_la ((fr_toAll (by decide) (by decide)).trans (up3_fam (by decide))))) (by omega))
  · rw [if_neg h27]
    try dsimp only
    exact (MW.mono hW (by omega))
theorem fl_X7_bestStand_6 {B : Nat} {m0 : Mem} {N : Nat} (hB : B + 0 < 2147483648) {m : Mem} {c1 : Int32} {c2 : Int32} (hNc : N ≤ 6) (hW : MW (B + 0 * 0) m0 m) : (MW (B + 0 * N) m0 (lf_X7_bestStand_6 N m c1 c2).1) := by
  rw [lf_X7_bestStand_6_eq]
  unfold ly_X7_bestStand_6
  exact itr_inv (n := N) (s := (m, c1, c2)) (P := fun jz s => (MW (B + 0 * jz) m0 s.1)) (fun jz s => bd_X7_bestStand_6 jz s.1 s.2.1 s.2.2) (fun jz s hj hs => fb_X7_bestStand_6 (B := B) (m0 := m0) hB (j := jz) (m := s.1) (c1 := s.2.1) (c2 := s.2.2) (by omega) hs) hW
theorem lp_X7_bestStand_6 {d n c s b : Nat} {M : JM} {o : JO} {hf : JH} {B : Nat} {m0 : Mem} {N : Nat} (hd : 8 ≤ d) (hB : B + 0 < 2147483648) (hNc : N ≤ 6) : ∀ (k j : Nat) (m : Mem) (c1 : Int32) (c2 : Int32), j + k = N → m 1 0 0 = nI N → (MW (B + 0 * j) m0 m) → JV (Ev mtab mcode d) jcX7_bestStand (128, [(0, .ref b), (1, .int ((itr (fun jz s => bd_X7_bestStand_6 jz s.1 s.2.1 s.2.2) k j (m, c1, c2)).2.1)), (2, .int ((itr (fun jz s => bd_X7_bestStand_6 jz s.1 s.2.1 s.2.2) k j (m, c1, c2)).2.2))], []) (n, c, s, mm b ((itr (fun jz s => bd_X7_bestStand_6 jz s.1 s.2.1 s.2.2) k j (m, c1, c2)).1) M) o hf → JV (Ev mtab mcode d) jcX7_bestStand (6, [(0, .ref b), (1, .int c1), (2, .int c2), (3, .int (nI j))], []) (n, c, s, mm b m M) o hf := by
  intro k
  induction k with
  | zero =>
    intro j m c1 c2 hj hN hW hc
    refine JV.ild (p2 := 7) rfl rfl rfl ?_
    refine JV.ald (p2 := 8) rfl rfl rfl ?_
    refine JV.getf (p2 := 11) rfl mm_M rfl rfl ?_
    refine JV.stk (len := 1) (sem := (s_push (.int 0))) (p2 := 12) rfl rfl rfl ?_
    refine JV.iald (p2 := 13) (j := 0) rfl mm_1 rfl (by omega) (by decide) rfl ?_
    refine JV.brT rfl rfl (by rw [hN]; exact nI_le (a := N) (b := j) (by omega) (by omega)) ?_
    exact JV.keep [0, 1, 2] rfl hc
  | succ k ih =>
    intro j m c1 c2 hj hN hW hc
    obtain ⟨s1, hx⟩ : ∃ s1, bd_X7_bestStand_6 j m c1 c2 = s1 := ⟨_, rfl⟩
    have hc2 : JV (Ev mtab mcode d) jcX7_bestStand (128, [(0, .ref b), (1, .int ((itr (fun jz s => bd_X7_bestStand_6 jz s.1 s.2.1 s.2.2) k (j + 1) s1).2.1)), (2, .int ((itr (fun jz s => bd_X7_bestStand_6 jz s.1 s.2.1 s.2.2) k (j + 1) s1).2.2))], []) (n, c, s, mm b ((itr (fun jz s => bd_X7_bestStand_6 jz s.1 s.2.1 s.2.2) k (j + 1) s1).1) M) o hf := by
      subst hx
      exact hc
    clear hc
    have iv := fb_X7_bestStand_6 (B := B) (m0 := m0) hB (j := j) (m := m) (c1 := c1) (c2 := c2) (by omega) hW
    rw [hx] at iv
    unfold bd_X7_bestStand_6 at hx
    refine JV.ild (p2 := 7) rfl rfl rfl ?_
    refine JV.ald (p2 := 8) rfl rfl rfl ?_
    refine JV.getf (p2 := 11) rfl mm_M rfl rfl ?_
    refine JV.stk (len := 1) (sem := (s_push (.int 0))) (p2 := 12) rfl rfl rfl ?_
    refine JV.iald (p2 := 13) (j := 0) rfl mm_1 rfl (by omega) (by decide) rfl ?_
    refine JV.brF (p2 := 16) rfl rfl rfl (by rw [hN]; exact nI_ge (a := j) (b := N) (by omega) (by omega)) ?_
    refine JV.ald (p2 := 17) rfl rfl rfl ?_
    refine JV.getf (p2 := 20) rfl mm_M rfl rfl ?_
    refine JV.ild (p2 := 21) rfl rfl rfl ?_
    refine JV.stk (len := 1) (sem := (s_push (.int 0))) (p2 := 22) rfl rfl rfl ?_
    refine JV.insI (p2 := 25) rfl (Nat.le_of_ble_eq_true rfl) rfl rfl (Nat.le_of_ble_eq_true rfl) rfl (ev_X7_standAt (by omega) rfl) rfl ?_
    refine JV.iald (p2 := 26) (j := (8 + 2 * j + 0)) rfl mm_1 (sa_at rfl rfl) (by omega) (by decide) rfl ?_
    refine JV.stk (len := 1) (sem := (s_push (.int 4))) (p2 := 27) rfl rfl rfl ?_
    by_cases h27 : (m 1 0 (8 + 2 * j + 0)) < 4
    · rw [if_pos h27] at hx
      refine JV.brF (p2 := 30) rfl rfl rfl (Int32.not_le.mpr h27) ?_
      refine JV.ald (p2 := 31) rfl rfl rfl ?_
      refine JV.inv0 (p2 := 34) rfl rfl rfl mm_M (Nat.le_of_ble_eq_true rfl) rfl (ev_X7_laysAside (by omega) hW (by omega) rfl) ?_
      refine JV.ald (p2 := 35) rfl rfl rfl ?_
      refine JV.getf (p2 := 38) rfl mm_M rfl rfl ?_
      refine JV.ild (p2 := 39) rfl rfl rfl ?_
      refine JV.stk (len := 1) (sem := (s_push (.int 0))) (p2 := 40) rfl rfl rfl ?_
      refine JV.insI (p2 := 43) rfl (Nat.le_of_ble_eq_true rfl) rfl rfl (Nat.le_of_ble_eq_true rfl) rfl (ev_X7_standAt (by omega) rfl) rfl ?_
      refine JV.stk (len := 1) (sem := s_dup2) (p2 := 44) rfl rfl rfl ?_
      refine JV.iald (p2 := 45) (j := (8 + 2 * j + 0)) rfl mm_1 (sa_at rfl rfl) (by omega) (by decide) rfl ?_
      refine JV.stk (len := 1) (sem := (s_push (.int 1))) (p2 := 46) rfl rfl rfl ?_
      refine JV.stk (len := 1) (sem := s_iadd) (p2 := 47) rfl rfl rfl ?_
      refine JV.iast (p2 := 48) (j := (8 + 2 * j + 0)) rfl mm_1 (sa_at rfl rfl) (by omega) (by decide) (mm_w1 (k := (8 + 2 * j + 0)) rfl) rfl ?_
      refine JV.ald (p2 := 49) rfl rfl rfl ?_
      refine JV.invI (p2 := 52) rfl rfl rfl mm_M (Nat.le_of_ble_eq_true rfl) rfl (ev_X7_toAll (by omega) (MW.up (fw_X7_laysAside hW (by omega)) (by unfold mok; omega)) (by omega) rfl) ?_
      refine JV.stk (len := 1) (sem := (s_push (.int (-1)))) (p2 := 53) rfl rfl rfl ?_
      by_cases h53 : (x_X7_toAll (up3 (x_X7_laysAside m) 1 0 (8 + 2 * j + 0) (((x_X7_laysAside m) 1 0 (8 + 2 * j + 0)) + 1))).2 = (-1)
      · rw [if_pos h53] at hx
        refine JV.brT rfl rfl h53 ?_
        refine JV.stk (len := 1) (sem := (s_push (.int 0))) (p2 := 61) rfl rfl rfl ?_
        refine JV.ist (p2 := 63) rfl rfl rfl ?_
        refine JV.ald (p2 := 64) rfl rfl rfl ?_
        refine JV.getf (p2 := 67) rfl mm_M rfl rfl ?_
        refine JV.stk (len := 2) (sem := (s_push (.int 6))) (p2 := 69) rfl rfl rfl ?_
        refine JV.iald (p2 := 70) (j := 6) rfl mm_1 rfl (by omega) (by decide) rfl ?_
        refine JV.ist (p2 := 72) rfl rfl rfl ?_
        refine JV.ald (p2 := 73) rfl rfl rfl ?_
        refine JV.inv0 (p2 := 76) rfl rfl rfl mm_M (Nat.le_of_ble_eq_true rfl) rfl (ev_X7_takesBack (by omega) rfl) ?_
        refine ja_X7_bestStand_j76 (m := (x_X7_takesBack ((x_X7_toAll (up3 (x_X7_laysAside m) 1 0 (8 + 2 * j + 0) (((x_X7_laysAside m) 1 0 (8 + 2 * j + 0)) + 1))).1))) (a1 := c1) (a2 := c2) (a3 := (nI j)) (a4 := 0) (a5 := ((x_X7_toAll (up3 (x_X7_laysAside m) 1 0 (8 + 2 * j + 0) (((x_X7_laysAside m) 1 0 (8 + 2 * j + 0)) + 1))).1 1 0 6)) ?_
        refine JV.iinc (p2 := 125) rfl rfl (nI_1 _) rfl rfl ?_
        refine JV.goto rfl ?_
        refine JV.keep [0, 1, 2, 3] rfl ?_
        subst hx
        dsimp only at iv hc2
        exact ih (j + 1) (x_X7_takesBack ((x_X7_toAll (up3 (x_X7_laysAside m) 1 0 (8 + 2 * j + 0) (((x_X7_laysAside m) 1 0 (8 + 2 * j + 0)) + 1))).1)) ((jf_X7_bestStand_j76 (x_X7_takesBack ((x_X7_toAll (up3 (x_X7_laysAside m) 1 0 (8 + 2 * j + 0) (((x_X7_laysAside m) 1 0 (8 + 2 * j + 0)) + 1))).1)) c1 c2 (nI j) 0 ((x_X7_toAll (up3 (x_X7_laysAside m) 1 0 (8 + 2 * j + 0) (((x_X7_laysAside m) 1 0 (8 + 2 * j + 0)) + 1))).1 1 0 6)).1) ((jf_X7_bestStand_j76 (x_X7_takesBack ((x_X7_toAll (up3 (x_X7_laysAside m) 1 0 (8 + 2 * j + 0) (((x_X7_laysAside m) 1 0 (8 + 2 * j + 0)) + 1))).1)) c1 c2 (nI j) 0 ((x_X7_toAll (up3 (x_X7_laysAside m) 1 0 (8 + 2 * j + 0) (((x_X7_laysAside m) 1 0 (8 + 2 * j + 0)) + 1))).1 1 0 6)).2) (by omega) ((MW.same iv hW (by decide)).trans hN) iv hc2
      · rw [if_neg h53] at hx
        refine JV.brF (p2 := 56) rfl rfl rfl h53 ?_
        refine JV.stk (len := 1) (sem := (s_push (.int 1))) (p2 := 57) rfl rfl rfl ?_
        refine JV.goto rfl ?_
        refine JV.ist (p2 := 63) rfl rfl rfl ?_
        refine JV.ald (p2 := 64) rfl rfl rfl ?_
        refine JV.getf (p2 := 67) rfl mm_M rfl rfl ?_
        refine JV.stk (len := 2) (sem := (s_push (.int 6))) (p2 := 69) rfl rfl rfl ?_
        refine JV.iald (p2 := 70) (j := 6) rfl mm_1 rfl (by omega) (by decide) rfl ?_
        refine JV.ist (p2 := 72) rfl rfl rfl ?_
        refine JV.ald (p2 := 73) rfl rfl rfl ?_
        refine JV.inv0 (p2 := 76) rfl rfl rfl mm_M (Nat.le_of_ble_eq_true rfl) rfl (ev_X7_takesBack (by omega) rfl) ?_
        refine ja_X7_bestStand_j76 (m := (x_X7_takesBack ((x_X7_toAll (up3 (x_X7_laysAside m) 1 0 (8 + 2 * j + 0) (((x_X7_laysAside m) 1 0 (8 + 2 * j + 0)) + 1))).1))) (a1 := c1) (a2 := c2) (a3 := (nI j)) (a4 := 1) (a5 := ((x_X7_toAll (up3 (x_X7_laysAside m) 1 0 (8 + 2 * j + 0) (((x_X7_laysAside m) 1 0 (8 + 2 * j + 0)) + 1))).1 1 0 6)) ?_
        refine JV.iinc (p2 := 125) rfl rfl (nI_1 _) rfl rfl ?_
        refine JV.goto rfl ?_
        refine JV.keep [0, 1, 2, 3] rfl ?_
        subst hx
        dsimp only at iv hc2
        exact ih (j + 1) (x_X7_takesBack ((x_X7_toAll (up3 (x_X7_laysAside m) 1 0 (8 + 2 * j + 0) (((x_X7_laysAside m) 1 0 (8 + 2 * j + 0)) + 1))).1)) ((jf_X7_bestStand_j76 (x_X7_takesBack ((x_X7_toAll (up3 (x_X7_laysAside m) 1 0 (8 + 2 * j + 0) (((x_X7_laysAside m) 1 0 (8 + 2 * j + 0)) + 1))).1)) c1 c2 (nI j) 1 ((x_X7_toAll (up3 (x_X7_laysAside m) 1 0 (8 + 2 * j + 0) (((x_X7_laysAside m) 1 0 (8 + 2 * j + 0)) + 1))).1 1 0 6)).1) ((jf_X7_bestStand_j76 (x_X7_takesBack ((x_X7_toAll (up3 (x_X7_laysAside m) 1 0 (8 + 2 * j + 0) (((x_X7_laysAside m) 1 0 (8 + 2 * j + 0)) + 1))).1)) c1 c2 (nI j) 1 ((x_X7_toAll (up3 (x_X7_laysAside m) 1 0 (8 + 2 * j + 0) (((x_X7_laysAside m) 1 0 (8 + 2 * j + 0)) + 1))).1 1 0 6)).2) (by omega) ((MW.same iv hW (by decide)).trans hN) iv hc2
    · rw [if_neg h27] at hx
      refine JV.brT rfl rfl (Int32.not_lt.mp h27) ?_
      refine JV.iinc (p2 := 125) rfl rfl (nI_1 _) rfl rfl ?_
      refine JV.goto rfl ?_
      subst hx
      dsimp only at iv hc2
      exact ih (j + 1) m c1 c2 (by omega) ((MW.same iv hW (by decide)).trans hN) iv hc2
theorem lq_X7_bestStand_6 {d n c s b : Nat} {M : JM} {o : JO} {hf : JH} {B : Nat} {m0 : Mem} {N : Nat} {m : Mem} {c1 : Int32} {c2 : Int32} (hd : 8 ≤ d) (hB : B + 0 < 2147483648) (hNc : N ≤ 6) (hN : m 1 0 0 = nI N) (hW : MW (B + 0 * 0) m0 m) (hc : JV (Ev mtab mcode d) jcX7_bestStand (128, [(0, .ref b), (1, .int ((lf_X7_bestStand_6 N m c1 c2).2.1)), (2, .int ((lf_X7_bestStand_6 N m c1 c2).2.2))], []) (n, c, s, mm b ((lf_X7_bestStand_6 N m c1 c2).1) M) o hf) : JV (Ev mtab mcode d) jcX7_bestStand (6, [(0, .ref b), (1, .int c1), (2, .int c2), (3, .int 0)], []) (n, c, s, mm b m M) o hf := by
  rw [lf_X7_bestStand_6_eq] at hc
  unfold ly_X7_bestStand_6 at hc
  exact lp_X7_bestStand_6 (B := B) (m0 := m0) hd hB hNc N 0 m c1 c2 (by omega) hN hW hc
noncomputable def y_X7_bestStand (m : Mem) : Mem × Int32 := ((x_X7_fine ((lf_X7_bestStand_6 (ix (m 1 0 0)) m (-1) 0).1) ((lf_X7_bestStand_6 (ix (m 1 0 0)) m (-1) 0).2.1)).1, (x_X7_fine ((lf_X7_bestStand_6 (ix (m 1 0 0)) m (-1) 0).1) ((lf_X7_bestStand_6 (ix (m 1 0 0)) m (-1) 0).2.1)).2)
theorem xe_X7_bestStand : ∃ f, f = y_X7_bestStand := ⟨y_X7_bestStand, rfl⟩
noncomputable def x_X7_bestStand := Classical.choose xe_X7_bestStand
theorem x_X7_bestStand_eq : x_X7_bestStand = y_X7_bestStand := Classical.choose_spec xe_X7_bestStand
theorem ev_X7_bestStand {d n c s b : Nat} {m : Mem} {M : JM} {B : Nat} {m0 : Mem} {res : Mem × Int32} (hd : 9 ≤ d) (hW : MW B m0 m) (hB : B + 0 < 2147483648) (hx : x_X7_bestStand m = res) : Ev mtab mcode d 144 [.ref b] (n, c, s, mm b m M) (.inl (some (.int res.2))) (n, c, s, mm b res.1 M) := by
  obtain ⟨d, rfl⟩ : ∃ e, d = e + 1 := ⟨d - 1, by omega⟩
  rw [x_X7_bestStand_eq] at hx
  unfold y_X7_bestStand at hx
  refine jv_mk (m := mX7_bestStand) (cd := jcX7_bestStand) rfl rfl (Nat.le_of_ble_eq_true rfl) trivial ?_
  refine JV.stk (len := 1) (sem := (s_push (.int (-1)))) (p2 := 1) rfl rfl rfl ?_
  refine JV.ist (p2 := 2) rfl rfl rfl ?_
  refine JV.stk (len := 1) (sem := (s_push (.int 0))) (p2 := 3) rfl rfl rfl ?_
  refine JV.ist (p2 := 4) rfl rfl rfl ?_
  refine JV.stk (len := 1) (sem := (s_push (.int 0))) (p2 := 5) rfl rfl rfl ?_
  refine JV.ist (p2 := 6) rfl rfl rfl ?_
  refine lq_X7_bestStand_6 (m := m) (c1 := (-1)) (c2 := 0) (N := (ix (m 1 0 0))) (B := B) (m0 := m0) (by omega) (by omega) hW.1.ns.2 (MW.cN hW hW (by decide)) (MW.mono hW (by omega)) ?_
  refine JV.ald (p2 := 129) rfl rfl rfl ?_
  refine JV.ild (p2 := 130) rfl rfl rfl ?_
  refine JV.invI (p2 := 133) rfl rfl rfl mm_M (Nat.le_of_ble_eq_true rfl) rfl (ev_X7_fine (by omega) rfl) ?_
  subst hx
  exact JV.ret rfl (fun _ => rfl) rfl rfl
