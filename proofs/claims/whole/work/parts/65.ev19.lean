noncomputable def bd_X7_parse_29 (j : Nat) (m : Mem) : Mem := (x_X7_adds m (m 6 0 (5 * j)) (m 6 0 ((5 * j) + 1)) (m 6 0 ((5 * j) + 2)) (m 6 0 ((5 * j) + 3)) (m 6 0 ((5 * j) + 4)))
noncomputable def ly_X7_parse_29 (N : Nat) (m : Mem) : Mem := itr (fun jz s => bd_X7_parse_29 jz s) N 0 m
theorem le_X7_parse_29 : ∃ f, f = ly_X7_parse_29 := ⟨ly_X7_parse_29, rfl⟩
noncomputable def lf_X7_parse_29 := Classical.choose le_X7_parse_29
theorem lf_X7_parse_29_eq : lf_X7_parse_29 = ly_X7_parse_29 := Classical.choose_spec le_X7_parse_29
theorem fb_X7_parse_29 {j : Nat} {m : Mem} (hjN : j < 12) (hK : MK m ∧ m 1 0 2 = nI j) : (MK (bd_X7_parse_29 j m) ∧ (bd_X7_parse_29 j m) 1 0 2 = nI (j + 1)) := by
  unfold bd_X7_parse_29
  have hjN2 : j < 12 := by omega
  exact (ad_K hK (by omega))
theorem fl_X7_parse_29 {N : Nat} {m : Mem} (hNc : N ≤ 12) (hK : MK m ∧ m 1 0 2 = nI 0) : (MK (lf_X7_parse_29 N m) ∧ (lf_X7_parse_29 N m) 1 0 2 = nI N) := by
  rw [lf_X7_parse_29_eq]
  unfold ly_X7_parse_29
  exact itr_inv (n := N) (s := m) (P := fun jz s => (MK s ∧ s 1 0 2 = nI jz)) (fun jz s => bd_X7_parse_29 jz s) (fun jz s hj hs => fb_X7_parse_29 (j := jz) (m := s) (by omega) hs) hK
theorem lp_X7_parse_29 {d n c s b : Nat} {M : JM} {o : JO} {hf : JH} {N : Nat} (hd : 4 ≤ d) (hNc : N ≤ 12) : ∀ (k j : Nat) (m : Mem), j + k = N → m 0 0 4 = nI N → (MK m ∧ m 1 0 2 = nI j) → JV (Ev mtab mcode d) jcX7_parse (95, [(0, .ref b)], []) (n, c, s, mm b (itr (fun jz s => bd_X7_parse_29 jz s) k j m) M) o hf → JV (Ev mtab mcode d) jcX7_parse (29, [(0, .ref b), (1, .int (nI j))], []) (n, c, s, mm b m M) o hf := by
  intro k
  induction k with
  | zero =>
    intro j m hj hN hK hc
    refine JV.ild (p2 := 30) rfl rfl rfl ?_
    refine JV.ald (p2 := 31) rfl rfl rfl ?_
    refine JV.getf (p2 := 34) rfl mm_M rfl rfl ?_
    refine JV.brT rfl rfl (by rw [hN]; exact nI_le (a := N) (b := j) (by omega) (by omega)) ?_
    exact JV.keep [0] rfl hc
  | succ k ih =>
    intro j m hj hN hK hc
    obtain ⟨s1, hx⟩ : ∃ s1, bd_X7_parse_29 j m = s1 := ⟨_, rfl⟩
    have hc2 : JV (Ev mtab mcode d) jcX7_parse (95, [(0, .ref b)], []) (n, c, s, mm b (itr (fun jz s => bd_X7_parse_29 jz s) k (j + 1) s1) M) o hf := by
      subst hx
      exact hc
    clear hc
    have iv := fb_X7_parse_29 (j := j) (m := m) (by omega) hK
    rw [hx] at iv
    unfold bd_X7_parse_29 at hx
    refine JV.ild (p2 := 30) rfl rfl rfl ?_
    refine JV.ald (p2 := 31) rfl rfl rfl ?_
    refine JV.getf (p2 := 34) rfl mm_M rfl rfl ?_
    refine JV.brF (p2 := 37) rfl rfl rfl (by rw [hN]; exact nI_ge (a := j) (b := N) (by omega) (by omega)) ?_
    refine JV.ald (p2 := 38) rfl rfl rfl ?_
    have hjN2 : j < 12 := by omega
    refine JV.ald (p2 := 39) rfl rfl rfl ?_
    refine JV.getf (p2 := 42) rfl mm_M rfl rfl ?_
    refine JV.stk (len := 1) (sem := (s_push (.int 5))) (p2 := 43) rfl rfl rfl ?_
    refine JV.ild (p2 := 44) rfl rfl rfl ?_
    refine JV.stk (len := 1) (sem := s_imul) (p2 := 45) rfl rfl rfl ?_
    refine JV.iald (p2 := 46) (j := (5 * j)) rfl mm_6 (nI_mulE rfl rfl) (by omega) (by decide) rfl ?_
    refine JV.ald (p2 := 47) rfl rfl rfl ?_
    refine JV.getf (p2 := 50) rfl mm_M rfl rfl ?_
    refine JV.stk (len := 1) (sem := (s_push (.int 5))) (p2 := 51) rfl rfl rfl ?_
    refine JV.ild (p2 := 52) rfl rfl rfl ?_
    refine JV.stk (len := 1) (sem := s_imul) (p2 := 53) rfl rfl rfl ?_
    refine JV.stk (len := 1) (sem := (s_push (.int 1))) (p2 := 54) rfl rfl rfl ?_
    refine JV.stk (len := 1) (sem := s_iadd) (p2 := 55) rfl rfl rfl ?_
    refine JV.iald (p2 := 56) (j := ((5 * j) + 1)) rfl mm_6 (nI_addE (nI_mulE rfl rfl) rfl) (by omega) (by decide) rfl ?_
    refine JV.ald (p2 := 57) rfl rfl rfl ?_
    refine JV.getf (p2 := 60) rfl mm_M rfl rfl ?_
    refine JV.stk (len := 1) (sem := (s_push (.int 5))) (p2 := 61) rfl rfl rfl ?_
    refine JV.ild (p2 := 62) rfl rfl rfl ?_
    refine JV.stk (len := 1) (sem := s_imul) (p2 := 63) rfl rfl rfl ?_
    refine JV.stk (len := 1) (sem := (s_push (.int 2))) (p2 := 64) rfl rfl rfl ?_
    refine JV.stk (len := 1) (sem := s_iadd) (p2 := 65) rfl rfl rfl ?_
    refine JV.iald (p2 := 66) (j := ((5 * j) + 2)) rfl mm_6 (nI_addE (nI_mulE rfl rfl) rfl) (by omega) (by decide) rfl ?_
    refine JV.ald (p2 := 67) rfl rfl rfl ?_
    refine JV.getf (p2 := 70) rfl mm_M rfl rfl ?_
    refine JV.stk (len := 1) (sem := (s_push (.int 5))) (p2 := 71) rfl rfl rfl ?_
    refine JV.ild (p2 := 72) rfl rfl rfl ?_
    refine JV.stk (len := 1) (sem := s_imul) (p2 := 73) rfl rfl rfl ?_
    refine JV.stk (len := 1) (sem := (s_push (.int 3))) (p2 := 74) rfl rfl rfl ?_
    refine JV.stk (len := 1) (sem := s_iadd) (p2 := 75) rfl rfl rfl ?_
    refine JV.iald (p2 := 76) (j := ((5 * j) + 3)) rfl mm_6 (nI_addE (nI_mulE rfl rfl) rfl) (by omega) (by decide) rfl ?_
    refine JV.ald (p2 := 77) rfl rfl rfl ?_
    refine JV.getf (p2 := 80) rfl mm_M rfl rfl ?_
    refine JV.stk (len := 1) (sem := (s_push (.int 5))) (p2 := 81) rfl rfl rfl ?_
    refine JV.ild (p2 := 82) rfl rfl rfl ?_
    refine JV.stk (len := 1) (sem := s_imul) (p2 := 83) rfl rfl rfl ?_
    refine JV.stk (len := 1) (sem := (s_push (.int 4))) (p2 := 84) rfl rfl rfl ?_
    refine JV.stk (len := 1) (sem := s_iadd) (p2 := 85) rfl rfl rfl ?_
    refine JV.iald (p2 := 86) (j := ((5 * j) + 4)) rfl mm_6 (nI_addE (nI_mulE rfl rfl) rfl) (by omega) (by decide) rfl ?_
    refine JV.inv0 (p2 := 89) rfl rfl rfl mm_M (Nat.le_of_ble_eq_true rfl) rfl (ev_X7_adds (by omega) (mw_self (B := 0) hK.1) (by decide) (tx_c hK hjN2) rfl) ?_
    refine JV.iinc (p2 := 92) rfl rfl (nI_1 _) rfl rfl ?_
    refine JV.goto rfl ?_
    subst hx
    exact ih (j + 1) _ (by omega) ((congrFun (congrFun (ad_f (by decide)) 0) 4).trans hN) iv hc2
theorem lq_X7_parse_29 {d n c s b : Nat} {M : JM} {o : JO} {hf : JH} {N : Nat} {m : Mem} (hd : 4 ≤ d) (hNc : N ≤ 12) (hN : m 0 0 4 = nI N) (hK : MK m ∧ m 1 0 2 = nI 0) (hc : JV (Ev mtab mcode d) jcX7_parse (95, [(0, .ref b)], []) (n, c, s, mm b (lf_X7_parse_29 N m) M) o hf) : JV (Ev mtab mcode d) jcX7_parse (29, [(0, .ref b), (1, .int 0)], []) (n, c, s, mm b m M) o hf := by
  rw [lf_X7_parse_29_eq] at hc
  unfold ly_X7_parse_29 at hc
  exact lp_X7_parse_29 hd hNc N 0 m (by omega) hN hK hc
noncomputable def y_X7_parse (m : Mem) : Mem × Int32 := (if (x_X7_readsText m).2 = true then ((x_X7_fine (lf_X7_parse_29 (ix ((x_X7_readsText m).1 0 0 4)) (x_X7_clears (x_X7_save ((x_X7_readsText m).1)))) ((lf_X7_parse_29 (ix ((x_X7_readsText m).1 0 0 4)) (x_X7_clears (x_X7_save ((x_X7_readsText m).1)))) 0 0 4)).1, (x_X7_fine (lf_X7_parse_29 (ix ((x_X7_readsText m).1 0 0 4)) (x_X7_clears (x_X7_save ((x_X7_readsText m).1)))) ((lf_X7_parse_29 (ix ((x_X7_readsText m).1 0 0 4)) (x_X7_clears (x_X7_save ((x_X7_readsText m).1)))) 0 0 4)).2) else ((x_X7_fine ((x_X7_readsText m).1) ((-10) - ((x_X7_readsText m).1 0 0 3))).1, (x_X7_fine ((x_X7_readsText m).1) ((-10) - ((x_X7_readsText m).1 0 0 3))).2))
theorem xe_X7_parse : ∃ f, f = y_X7_parse := ⟨y_X7_parse, rfl⟩
noncomputable def x_X7_parse := Classical.choose xe_X7_parse
theorem x_X7_parse_eq : x_X7_parse = y_X7_parse := Classical.choose_spec xe_X7_parse
theorem ev_X7_parse {d n c s b : Nat} {m : Mem} {M : JM} {B : Nat} {m0 : Mem} {res : Mem × Int32} (hd : 5 ≤ d) (hW : MW B m0 m) (hB : B + 0 < 2147483648) (hs : VN 4 (m 0 0 0)) (hT : VN 90 (m 0 0 2))  (hx : x_X7_parse m = res) : Ev mtab mcode d 154 [.ref b] (n, c, s, mm b m M) (.inl (some (.int res.2))) (n, c, s, mm b res.1 M) := by
  obtain ⟨d, rfl⟩ : ∃ e, d = e + 1 := ⟨d - 1, by omega⟩
  rw [x_X7_parse_eq] at hx
  unfold y_X7_parse at hx
  refine jv_mk (m := mX7_parse) (cd := jcX7_parse) rfl rfl (Nat.le_of_ble_eq_true rfl) trivial ?_
  refine JV.ald (p2 := 1) rfl rfl rfl ?_
  refine JV.invI (p2 := 4) rfl rfl rfl mm_M (Nat.le_of_ble_eq_true rfl) rfl (ev_X7_readsText (by omega) (tu_self hT) (by omega) rfl) ?_
  by_cases h4 : (x_X7_readsText m).2 = true
  · rw [if_pos h4] at hx
    refine JV.brT rfl rfl (bI_t h4) ?_
    refine JV.ald (p2 := 20) rfl rfl rfl ?_
    refine JV.inv0 (p2 := 23) rfl rfl rfl mm_M (Nat.le_of_ble_eq_true rfl) rfl (ev_X7_save (by omega) (mw_readsText hW hT) (by omega) (tx_s hT hs) rfl) ?_
    refine JV.ald (p2 := 24) rfl rfl rfl ?_
    refine JV.inv0 (p2 := 27) rfl rfl rfl mm_M (Nat.le_of_ble_eq_true rfl) rfl (ev_X7_clears (by omega) (fw_X7_save (mw_readsText hW hT) (by omega) (tx_s hT hs)) (by omega) rfl) ?_
    refine JV.stk (len := 1) (sem := (s_push (.int 0))) (p2 := 28) rfl rfl rfl ?_
    refine JV.ist (p2 := 29) rfl rfl rfl ?_
    refine lq_X7_parse_29 (m := (x_X7_clears (x_X7_save ((x_X7_readsText m).1)))) (N := (ix ((x_X7_readsText m).1 0 0 4))) (by omega) (tx_r hT).2 ((tx_f (m := (x_X7_readsText m).1)).trans (tx_r hT).1) (tx_k hW hT hs hB) ?_
    refine JV.ald (p2 := 96) rfl rfl rfl ?_
    refine JV.ald (p2 := 97) rfl rfl rfl ?_
    refine JV.getf (p2 := 100) rfl mm_M rfl rfl ?_
    refine JV.invI (p2 := 103) rfl rfl rfl mm_M (Nat.le_of_ble_eq_true rfl) rfl (ev_X7_fine (by omega) rfl) ?_
    subst hx
    exact JV.ret rfl (fun _ => rfl) rfl rfl
  · rw [if_neg h4] at hx
    refine JV.brF (p2 := 7) rfl rfl rfl (fun e => e (bI_f h4)) ?_
    refine JV.ald (p2 := 8) rfl rfl rfl ?_
    refine JV.stk (len := 2) (sem := (s_push (.int (-10)))) (p2 := 10) rfl rfl rfl ?_
    refine JV.ald (p2 := 11) rfl rfl rfl ?_
    refine JV.getf (p2 := 14) rfl mm_M rfl rfl ?_
    refine JV.stk (len := 1) (sem := s_isub) (p2 := 15) rfl rfl rfl ?_
    refine JV.invI (p2 := 18) rfl rfl rfl mm_M (Nat.le_of_ble_eq_true rfl) rfl (ev_X7_fine (by omega) rfl) ?_
    subst hx
    exact JV.ret rfl (fun _ => rfl) rfl rfl
