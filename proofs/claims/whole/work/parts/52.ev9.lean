theorem vn_43 {x : Int32} (h : VN 4 x) (g : ¬ x = 4) : VN 3 x := by
  refine ⟨h.1, ?_⟩
  have b := h.2
  have : ix x ≠ 4 := fun e => g (by rw [h.1, e]; rfl)
  omega
noncomputable def bd_X7_save_10 (j : Nat) (m : Mem) : Mem := (up3 m 2 0 j (m 2 0 (j + 245)))
noncomputable def ly_X7_save_10 (N : Nat) (m : Mem) : Mem := itr (fun jz s => bd_X7_save_10 jz s) N 0 m
theorem le_X7_save_10 : ∃ f, f = ly_X7_save_10 := ⟨ly_X7_save_10, rfl⟩
noncomputable def lf_X7_save_10 := Classical.choose le_X7_save_10
theorem lf_X7_save_10_eq : lf_X7_save_10 = ly_X7_save_10 := Classical.choose_spec le_X7_save_10
theorem fb_X7_save_10 {B : Nat} {m0 : Mem} (hB : B + 0 < 2147483648) {j : Nat} {m : Mem} (hjN : j < 735) (hW : MW (B + 0 * j) m0 m) (h4 : m 0 0 0 = 4) : (MW (B + 0 * (j + 1)) m0 (bd_X7_save_10 j m)) ∧ ((bd_X7_save_10 j m) 0 0 0 = 4) := by
  unfold bd_X7_save_10
  exact ⟨(MW.mono (MW.upo hW (by decide)) (by omega)), ((up3_ne (by simp)).trans h4)⟩
theorem fl_X7_save_10 {B : Nat} {m0 : Mem} (hB : B + 0 < 2147483648) {m : Mem} {N : Nat} (hNl : N = 735) (hW : MW (B + 0 * 0) m0 m) (h4 : m 0 0 0 = 4) : (MW (B + 0 * N) m0 (lf_X7_save_10 N m)) ∧ ((lf_X7_save_10 N m) 0 0 0 = 4) := by
  rw [lf_X7_save_10_eq]
  unfold ly_X7_save_10
  exact itr_inv (n := N) (s := m) (P := fun jz s => (MW (B + 0 * jz) m0 s) ∧ (s 0 0 0 = 4)) (fun jz s => bd_X7_save_10 jz s) (fun jz s hj hs => fb_X7_save_10 (B := B) (m0 := m0) hB (j := jz) (m := s) (by omega) hs.1 hs.2) ⟨hW, h4⟩
theorem lp_X7_save_10 {d n c s b : Nat} {M : JM} {o : JO} {hf : JH} {B : Nat} {m0 : Mem} (hd : 0 ≤ d) (hB : B + 0 < 2147483648) : ∀ (k j : Nat) (m : Mem), j + k = 735 → (MW (B + 0 * j) m0 m) → (m 0 0 0 = 4) → JV (Ev mtab mcode d) jcX7_save (39, [(0, .ref b)], []) (n, c, s, mm b (itr (fun jz s => bd_X7_save_10 jz s) k j m) M) o hf → JV (Ev mtab mcode d) jcX7_save (10, [(0, .ref b), (1, .int (nI j))], []) (n, c, s, mm b m M) o hf := by
  intro k
  induction k with
  | zero =>
    intro j m hj hW h4 hc
    refine JV.ild (p2 := 11) rfl rfl rfl ?_
    refine JV.stk (len := 3) (sem := (s_push (.int 735))) (p2 := 14) rfl rfl rfl ?_
    refine JV.brT rfl rfl (by exact nI_le (a := 735) (b := j) (by omega) (by omega)) ?_
    exact JV.keep [0] rfl hc
  | succ k ih =>
    intro j m hj hW h4 hc
    obtain ⟨s1, hx⟩ : ∃ s1, bd_X7_save_10 j m = s1 := ⟨_, rfl⟩
    have hc2 : JV (Ev mtab mcode d) jcX7_save (39, [(0, .ref b)], []) (n, c, s, mm b (itr (fun jz s => bd_X7_save_10 jz s) k (j + 1) s1) M) o hf := by
      subst hx
      exact hc
    clear hc
    have iv := fb_X7_save_10 (B := B) (m0 := m0) hB (j := j) (m := m) (by omega) hW h4
    rw [hx] at iv
    unfold bd_X7_save_10 at hx
    refine JV.ild (p2 := 11) rfl rfl rfl ?_
    refine JV.stk (len := 3) (sem := (s_push (.int 735))) (p2 := 14) rfl rfl rfl ?_
    refine JV.brF (p2 := 17) rfl rfl rfl (by exact nI_ge (a := j) (b := 735) (by omega) (by omega)) ?_
    refine JV.ald (p2 := 18) rfl rfl rfl ?_
    refine JV.getf (p2 := 21) rfl mm_M rfl rfl ?_
    refine JV.ild (p2 := 22) rfl rfl rfl ?_
    refine JV.ald (p2 := 23) rfl rfl rfl ?_
    refine JV.getf (p2 := 26) rfl mm_M rfl rfl ?_
    refine JV.ild (p2 := 27) rfl rfl rfl ?_
    refine JV.stk (len := 3) (sem := (s_push (.int 245))) (p2 := 30) rfl rfl rfl ?_
    refine JV.stk (len := 1) (sem := s_iadd) (p2 := 31) rfl rfl rfl ?_
    refine JV.iald (p2 := 32) (j := (j + 245)) rfl mm_2 (nI_addE rfl rfl) (by omega) (by decide) rfl ?_
    refine JV.iast (p2 := 33) (j := j) rfl mm_2 rfl (by omega) (by decide) (mm_w2 (k := j) rfl) rfl ?_
    refine JV.iinc (p2 := 36) rfl rfl (nI_1 _) rfl rfl ?_
    refine JV.goto rfl ?_
    subst hx
    exact ih (j + 1) _ (by omega) iv.1 iv.2 hc2
theorem lq_X7_save_10 {d n c s b : Nat} {M : JM} {o : JO} {hf : JH} {B : Nat} {m0 : Mem} {m : Mem} (hd : 0 ≤ d) (hB : B + 0 < 2147483648) (hW : MW (B + 0 * 0) m0 m) (h4 : m 0 0 0 = 4) (hc : JV (Ev mtab mcode d) jcX7_save (39, [(0, .ref b)], []) (n, c, s, mm b (lf_X7_save_10 735 m) M) o hf) : JV (Ev mtab mcode d) jcX7_save (10, [(0, .ref b), (1, .int 0)], []) (n, c, s, mm b m M) o hf := by
  rw [lf_X7_save_10_eq] at hc
  unfold ly_X7_save_10 at hc
  exact lp_X7_save_10 (B := B) (m0 := m0) hd hB 735 0 m (by omega) hW h4 hc
noncomputable def bd_X7_save_51 (j : Nat) (m : Mem) : Mem := (up3 m 2 0 ((245 * (ix (m 0 0 0))) + j) (m 1 0 j))
noncomputable def ly_X7_save_51 (N : Nat) (m : Mem) : Mem := itr (fun jz s => bd_X7_save_51 jz s) N 0 m
theorem le_X7_save_51 : ∃ f, f = ly_X7_save_51 := ⟨ly_X7_save_51, rfl⟩
noncomputable def lf_X7_save_51 := Classical.choose le_X7_save_51
theorem lf_X7_save_51_eq : lf_X7_save_51 = ly_X7_save_51 := Classical.choose_spec le_X7_save_51
theorem fb_X7_save_51 {B : Nat} {m0 : Mem} (hB : B + 0 < 2147483648) {j : Nat} {m : Mem} (hjN : j < 245) (hW : MW (B + 0 * j) m0 m) (hS : VN 3 (m 0 0 0)) : (MW (B + 0 * (j + 1)) m0 (bd_X7_save_51 j m)) ∧ (VN 3 ((bd_X7_save_51 j m) 0 0 0)) := by
  unfold bd_X7_save_51
  have b58 := hS.2
  exact ⟨(MW.mono (MW.upo hW (by decide)) (by omega)), (by rw [up3_ne (by simp)]; exact hS)⟩
theorem fl_X7_save_51 {B : Nat} {m0 : Mem} (hB : B + 0 < 2147483648) {m : Mem} {N : Nat} (hNl : N = 245) (hW : MW (B + 0 * 0) m0 m) (hS : VN 3 (m 0 0 0)) : (MW (B + 0 * N) m0 (lf_X7_save_51 N m)) ∧ (VN 3 ((lf_X7_save_51 N m) 0 0 0)) := by
  rw [lf_X7_save_51_eq]
  unfold ly_X7_save_51
  exact itr_inv (n := N) (s := m) (P := fun jz s => (MW (B + 0 * jz) m0 s) ∧ (VN 3 (s 0 0 0))) (fun jz s => bd_X7_save_51 jz s) (fun jz s hj hs => fb_X7_save_51 (B := B) (m0 := m0) hB (j := jz) (m := s) (by omega) hs.1 hs.2) ⟨hW, hS⟩
theorem lp_X7_save_51 {d n c s b : Nat} {M : JM} {o : JO} {hf : JH} {B : Nat} {m0 : Mem} (hd : 0 ≤ d) (hB : B + 0 < 2147483648) : ∀ (k j : Nat) (m : Mem), j + k = 245 → (MW (B + 0 * j) m0 m) → (VN 3 (m 0 0 0)) → JV (Ev mtab mcode d) jcX7_save (85, [(0, .ref b)], []) (n, c, s, mm b (itr (fun jz s => bd_X7_save_51 jz s) k j m) M) o hf → JV (Ev mtab mcode d) jcX7_save (51, [(0, .ref b), (1, .int (nI j))], []) (n, c, s, mm b m M) o hf := by
  intro k
  induction k with
  | zero =>
    intro j m hj hW hS hc
    refine JV.ild (p2 := 52) rfl rfl rfl ?_
    refine JV.stk (len := 3) (sem := (s_push (.int 245))) (p2 := 55) rfl rfl rfl ?_
    refine JV.brT rfl rfl (by exact nI_le (a := 245) (b := j) (by omega) (by omega)) ?_
    exact JV.keep [0] rfl hc
  | succ k ih =>
    intro j m hj hW hS hc
    obtain ⟨s1, hx⟩ : ∃ s1, bd_X7_save_51 j m = s1 := ⟨_, rfl⟩
    have hc2 : JV (Ev mtab mcode d) jcX7_save (85, [(0, .ref b)], []) (n, c, s, mm b (itr (fun jz s => bd_X7_save_51 jz s) k (j + 1) s1) M) o hf := by
      subst hx
      exact hc
    clear hc
    have iv := fb_X7_save_51 (B := B) (m0 := m0) hB (j := j) (m := m) (by omega) hW hS
    rw [hx] at iv
    unfold bd_X7_save_51 at hx
    refine JV.ild (p2 := 52) rfl rfl rfl ?_
    refine JV.stk (len := 3) (sem := (s_push (.int 245))) (p2 := 55) rfl rfl rfl ?_
    refine JV.brF (p2 := 58) rfl rfl rfl (by exact nI_ge (a := j) (b := 245) (by omega) (by omega)) ?_
    have b58 := hS.2
    refine JV.ald (p2 := 59) rfl rfl rfl ?_
    refine JV.getf (p2 := 62) rfl mm_M rfl rfl ?_
    refine JV.stk (len := 3) (sem := (s_push (.int 245))) (p2 := 65) rfl rfl rfl ?_
    refine JV.ald (p2 := 66) rfl rfl rfl ?_
    refine JV.getf (p2 := 69) rfl mm_M rfl rfl ?_
    refine JV.stk (len := 1) (sem := s_imul) (p2 := 70) rfl rfl rfl ?_
    refine JV.ild (p2 := 71) rfl rfl rfl ?_
    refine JV.stk (len := 1) (sem := s_iadd) (p2 := 72) rfl rfl rfl ?_
    refine JV.ald (p2 := 73) rfl rfl rfl ?_
    refine JV.getf (p2 := 76) rfl mm_M rfl rfl ?_
    refine JV.ild (p2 := 77) rfl rfl rfl ?_
    refine JV.iald (p2 := 78) (j := j) rfl mm_1 rfl (by omega) (by decide) rfl ?_
    refine JV.iast (p2 := 79) (j := ((245 * (ix (m 0 0 0))) + j)) rfl mm_2 (nI_addE (nI_mulE rfl hS.1) rfl) (by omega) (by decide) (mm_w2 (k := ((245 * (ix (m 0 0 0))) + j)) rfl) rfl ?_
    refine JV.iinc (p2 := 82) rfl rfl (nI_1 _) rfl rfl ?_
    refine JV.goto rfl ?_
    subst hx
    exact ih (j + 1) _ (by omega) iv.1 iv.2 hc2
theorem lq_X7_save_51 {d n c s b : Nat} {M : JM} {o : JO} {hf : JH} {B : Nat} {m0 : Mem} {m : Mem} (hd : 0 ≤ d) (hB : B + 0 < 2147483648) (hW : MW (B + 0 * 0) m0 m) (hS : VN 3 (m 0 0 0)) (hc : JV (Ev mtab mcode d) jcX7_save (85, [(0, .ref b)], []) (n, c, s, mm b (lf_X7_save_51 245 m) M) o hf) : JV (Ev mtab mcode d) jcX7_save (51, [(0, .ref b), (1, .int 0)], []) (n, c, s, mm b m M) o hf := by
  rw [lf_X7_save_51_eq] at hc
  unfold ly_X7_save_51 at hc
  exact lp_X7_save_51 (B := B) (m0 := m0) hd hB 245 0 m (by omega) hW hS hc
noncomputable def y_X7_save (m : Mem) : Mem := (if (m 0 0 0) = 4 then (up3 (lf_X7_save_51 245 (up3 (lf_X7_save_10 735 m) 0 0 0 (((lf_X7_save_10 735 m) 0 0 0) - 1))) 0 0 0 (((lf_X7_save_51 245 (up3 (lf_X7_save_10 735 m) 0 0 0 (((lf_X7_save_10 735 m) 0 0 0) - 1))) 0 0 0) + 1)) else (up3 (lf_X7_save_51 245 m) 0 0 0 (((lf_X7_save_51 245 m) 0 0 0) + 1)))
theorem xe_X7_save : ∃ f, f = y_X7_save := ⟨y_X7_save, rfl⟩
noncomputable def x_X7_save := Classical.choose xe_X7_save
theorem x_X7_save_eq : x_X7_save = y_X7_save := Classical.choose_spec xe_X7_save
theorem ev_X7_save {d n c s b : Nat} {m : Mem} {M : JM} {B : Nat} {m0 : Mem} {res : Mem} (hd : 1 ≤ d) (hW : MW B m0 m) (hB : B + 0 < 2147483648) (hs : VN 4 (m 0 0 0)) (hx : x_X7_save m = res) : Ev mtab mcode d 94 [.ref b] (n, c, s, mm b m M) (.inl none) (n, c, s, mm b res M) := by
  obtain ⟨d, rfl⟩ : ∃ e, d = e + 1 := ⟨d - 1, by omega⟩
  rw [x_X7_save_eq] at hx
  unfold y_X7_save at hx
  refine jv_mk (m := mX7_save) (cd := jcX7_save) rfl rfl (Nat.le_of_ble_eq_true rfl) trivial ?_
  refine JV.ald (p2 := 1) rfl rfl rfl ?_
  refine JV.getf (p2 := 4) rfl mm_M rfl rfl ?_
  refine JV.stk (len := 1) (sem := (s_push (.int 4))) (p2 := 5) rfl rfl rfl ?_
  by_cases h5 : (m 0 0 0) = 4
  · rw [if_pos h5] at hx
    refine JV.brF (p2 := 8) rfl rfl rfl (fun e => e h5) ?_
    refine JV.stk (len := 1) (sem := (s_push (.int 0))) (p2 := 9) rfl rfl rfl ?_
    refine JV.ist (p2 := 10) rfl rfl rfl ?_
    refine lq_X7_save_10 (m := m) (B := B) (m0 := m0) (by omega) (by omega) (MW.mono hW (by omega)) h5 ?_
    refine JV.ald (p2 := 40) rfl rfl rfl ?_
    refine JV.stk (len := 1) (sem := s_dup) (p2 := 41) rfl rfl rfl ?_
    refine JV.getf (p2 := 44) rfl mm_M rfl rfl ?_
    refine JV.stk (len := 1) (sem := (s_push (.int 1))) (p2 := 45) rfl rfl rfl ?_
    refine JV.stk (len := 1) (sem := s_isub) (p2 := 46) rfl rfl rfl ?_
    refine JV.puti (p2 := 49) rfl mm_M (Nat.le_of_ble_eq_true rfl) (mm_wM (k := 0) rfl) rfl ?_
    refine JV.stk (len := 1) (sem := (s_push (.int 0))) (p2 := 50) rfl rfl rfl ?_
    refine JV.ist (p2 := 51) rfl rfl rfl ?_
    refine lq_X7_save_51 (m := (up3 (lf_X7_save_10 735 m) 0 0 0 (((lf_X7_save_10 735 m) 0 0 0) - 1))) (B := B) (m0 := m0) (by omega) (by omega) (MW.mono (MW.upo (MW.mono (fl_X7_save_10 (m := m) (B := B) (m0 := m0) (by omega) (N := 735) rfl (MW.mono hW (by omega)) h5).1 (B' := B + 0) (by omega)) (by decide)) (by omega)) (by first | exact vn_43 hs h5 | (rw [up3_self, (fl_X7_save_10 (N := 735) (m0 := m0) hB rfl hW h5).2]; exact ⟨by decide, by decide⟩)) ?_
    refine JV.ald (p2 := 86) rfl rfl rfl ?_
    refine JV.stk (len := 1) (sem := s_dup) (p2 := 87) rfl rfl rfl ?_
    refine JV.getf (p2 := 90) rfl mm_M rfl rfl ?_
    refine JV.stk (len := 1) (sem := (s_push (.int 1))) (p2 := 91) rfl rfl rfl ?_
    refine JV.stk (len := 1) (sem := s_iadd) (p2 := 92) rfl rfl rfl ?_
    refine JV.puti (p2 := 95) rfl mm_M (Nat.le_of_ble_eq_true rfl) (mm_wM (k := 0) rfl) rfl ?_
    subst hx
    exact JV.ret rfl (fun _ => rfl) rfl rfl
  · rw [if_neg h5] at hx
    refine JV.brT rfl rfl h5 ?_
    refine JV.stk (len := 1) (sem := (s_push (.int 0))) (p2 := 50) rfl rfl rfl ?_
    refine JV.ist (p2 := 51) rfl rfl rfl ?_
    refine lq_X7_save_51 (m := m) (B := B) (m0 := m0) (by omega) (by omega) (MW.mono hW (by omega)) (by first | exact vn_43 hs h5 | (rw [up3_self, (fl_X7_save_10 (N := 735) (m0 := m0) hB rfl hW h5).2]; exact ⟨by decide, by decide⟩)) ?_
    refine JV.ald (p2 := 86) rfl rfl rfl ?_
    refine JV.stk (len := 1) (sem := s_dup) (p2 := 87) rfl rfl rfl ?_
    refine JV.getf (p2 := 90) rfl mm_M rfl rfl ?_
    refine JV.stk (len := 1) (sem := (s_push (.int 1))) (p2 := 91) rfl rfl rfl ?_
    refine JV.stk (len := 1) (sem := s_iadd) (p2 := 92) rfl rfl rfl ?_
    refine JV.puti (p2 := 95) rfl mm_M (Nat.le_of_ble_eq_true rfl) (mm_wM (k := 0) rfl) rfl ?_
    subst hx
    exact JV.ret rfl (fun _ => rfl) rfl rfl
theorem fw_X7_save {m : Mem} {B : Nat} {m0 : Mem} (hW : MW B m0 m) (hB : B + 0 < 2147483648) (hs : VN 4 (m 0 0 0)) : MW (B + 0) m0 (x_X7_save m) := by
  rw [x_X7_save_eq]
  unfold y_X7_save
  by_cases h5 : (m 0 0 0) = 4
  · rw [if_pos h5]
    exact MW.mono (MW.upo (MW.mono (fl_X7_save_51 (m := (up3 (lf_X7_save_10 735 m) 0 0 0 (((lf_X7_save_10 735 m) 0 0 0) - 1))) (B := B) (m0 := m0) (by omega) (N := 245) rfl (MW.mono (MW.upo (MW.mono (fl_X7_save_10 (m := m) (B := B) (m0 := m0) (by omega) (N := 735) rfl (MW.mono hW (by omega)) h5).1 (B' := B + 0) (by omega)) (by decide)) (by omega)) (by first | exact vn_43 hs h5 | (rw [up3_self, (fl_X7_save_10 (N := 735) (m0 := m0) hB rfl hW h5).2]; exact ⟨by decide, by decide⟩))).1 (B' := B + 0) (by omega)) (by decide)) (by omega)
  · rw [if_neg h5]
    exact MW.mono (MW.upo (MW.mono (fl_X7_save_51 (m := m) (B := B) (m0 := m0) (by omega) (N := 245) rfl (MW.mono hW (by omega)) (by first | exact vn_43 hs h5 | (rw [up3_self, (fl_X7_save_10 (N := 735) (m0 := m0) hB rfl hW h5).2]; exact ⟨by decide, by decide⟩))).1 (B' := B + 0) (by omega)) (by decide)) (by omega)
