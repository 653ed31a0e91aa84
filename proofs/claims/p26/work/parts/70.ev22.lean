theorem pass_K {B : Nat} {j : Nat} {S : Sys} {p : Int32} (h : SK (B + 39 * j) S) (hB : B + 39 * j + 39 < 2147483648) : SK (B + 39 * (j + 1)) (us S 1 (x_X1_passSome (S 1) p).1) := by
  have w := fw_X1_passSome (p1 := p) h.w1 hB
  exact sk_us (h.mono (by omega)) (by decide) (by decide) w.1 ⟨w.2.1.1, by have := w.2.1.2; omega⟩
theorem passT_K {B : Nat} {j : Nat} {S : Sys} {p : Int32} (h : SK (B + 39 * j) S) (hB : B + 39 * j + 39 < 2147483648) : SK (B + 39 * (j + 1)) (us S 2 (x_X1_passSome (S 2) p).1) := by
  have w := fw_X1_passSome (p1 := p) h.w2 hB
  exact sk_us (h.mono (by omega)) (by decide) (by decide) w.1 ⟨w.2.1.1, by have := w.2.1.2; omega⟩
theorem sk_cpK {B : Nat} {S : Sys} (h : SK B S) : SK B (us S 2 (x_X1_copyFrom (S 2) (S 1))) := sk_us h (by decide) (by decide) (sk_cp h).1 (sk_cp h).2.1
theorem best_W {B i : Nat} {S : Sys} {v : Int32} (h : SK (B + 117000) S) (hV : VN B (S 1 4 0 0)) (hi : i < 6) : FW B (S 1) (up3 (x_X1_copyFrom (S 2) (S 1)) 1 i 0 v) := FW.up (fw_copy h.f2 h.f1 hV) rfl
theorem best_K {B i : Nat} {S : Sys} {v : Int32} (h : SK (B + 117000) S) (hV : VN B (S 1 4 0 0)) (hi : i < 6) (hB : B + 117000 < 2147483648) : SK (B + 117000) (us (us (us S 2 (x_X1_copyFrom (S 2) (S 1))) 2 (up3 (x_X1_copyFrom (S 2) (S 1)) 1 i 0 v)) 2 (x_X1_passUntilAllGone (up3 (x_X1_copyFrom (S 2) (S 1)) 1 i 0 v)).1) := by
  have w := fw_X1_passUntilAllGone (best_W (v := v) h hV hi) hB
  rw [us_us, us_us]
  exact sk_us h (by decide) (by decide) w.1 w.2.1
theorem sk_rd {B : Nat} {S : Sys} (h : SK B S) : SK B (us S 7 (x_X4_read (S 7)).1) := ⟨h.1, h.2.1, fun u h1 h6 => by rw [us_ne (by omega)]; exact h.2.2.1 u h1 h6, (fw_X4_read h.2.2.2).1⟩
theorem pa_N {B : Nat} {S : Sys} {m : Mem} (h : SK B S) : us (x_X6_save (us S 7 (x_X4_read (S 7)).1)) 1 m 7 0 0 1 = nI (ix ((x_X4_read (S 7)).1 0 0 1)) := by
  have q := sk_rd h
  rw [us_ne (by decide), sv_u (by simp) q.2.1 q.1, us_same]
  exact (fw_X4_read h.2.2.2).2.1.1
theorem fk_restart {m : Mem} (h : FK m) : FK (x_X1_restart m) := by
  have e1 : ∀ (N : Nat) (s : Mem), FK s → FK (lf_X1_restart_2 N s) := fun N s hs => by
    rw [lf_X1_restart_2_eq]
    refine itr_inv (P := fun (_ : Nat) (t : Mem) => FK t) _ (fun j t _ g => ?_) hs
    show FK (x_X3_restart t j)
    rw [x_X3_restart_eq]
    exact (FK.upS g (Or.inl rfl)).up rfl
  have e2 : ∀ (N : Nat) (s : Mem), FK s → FK (lf_X1_restart_27 N s) := fun N s hs => by
    rw [lf_X1_restart_27_eq]
    refine itr_inv (P := fun (_ : Nat) (t : Mem) => FK t) _ (fun j t _ g => ?_) hs
    show FK (x_X5_restart t j)
    rw [x_X5_restart_eq]
    exact (((FK.upT g (Or.inl rfl)).up rfl).up rfl).up rfl
  have q := e2 (ix (m 0 0 1)) _ (e1 (ix (m 0 0 0)) m h)
  rw [x_X1_restart_eq]
  unfold y_X1_restart
  refine ⟨?_, ?_, ?_, fun j hj => ?_, fun j hj => ?_, fun j hj => ?_⟩
  · rw [up3_ne (by decide), up3_ne (by decide), up3_ne (by decide)]; exact q.ns
  · rw [up3_ne (by decide), up3_ne (by decide), up3_ne (by decide)]; exact q.nt
  · rw [up3_ne (by decide), up3_ne (by decide), up3_self]; exact vn_0
  · rw [up3_ne (by simp), up3_ne (by simp), up3_ne (by simp)]; exact q.st hj
  · rw [up3_ne (by simp), up3_ne (by simp), up3_ne (by simp)]; exact q.tu hj
  · rw [up3_ne (by simp), up3_ne (by simp), up3_ne (by simp)]; exact q.ac hj
theorem ev_hj {m : Mem} {B j : Nat} (hv : VN B (m 4 0 0)) (hB : B < 2147483648) (h : j < ix (m 4 0 0)) : ¬ m 4 0 0 - 1 - nI j < 0 := by
  have b := hv.2
  rw [hv.1, show nI (ix (m 4 0 0)) - 1 = nI (ix (m 4 0 0) - 1) from pk_sub (b := 1) (by omega), pk_sub (by omega)]
  exact nI_pos (by omega)
noncomputable def bd_X6_pass_64 (w1 : Int32) (w2 : Int32) (j : Nat) (m : Sys) (c3 : Int32) : Sys × Int32 := (if c3 < w1 then ((us m 1 (x_X1_passSome (m 1) (w1 - c3)).1), (c3 + (x_X1_passSome (m 1) (w1 - c3)).2)) else (m, c3))
noncomputable def ly_X6_pass_64 (w1 : Int32) (w2 : Int32) (N : Nat) (m : Sys) (c3 : Int32) : Sys × Int32 := itr (fun jz s => bd_X6_pass_64 w1 w2 jz s.1 s.2) N 0 (m, c3)
theorem le_X6_pass_64 : ∃ f, f = ly_X6_pass_64 := ⟨ly_X6_pass_64, rfl⟩
noncomputable def lf_X6_pass_64 := Classical.choose le_X6_pass_64
theorem lf_X6_pass_64_eq : lf_X6_pass_64 = ly_X6_pass_64 := Classical.choose_spec le_X6_pass_64
theorem fb_X6_pass_64 {B : Nat} {w1 : Int32} {w2 : Int32} (hB : B + 39 * 500 < 2147483648) {j : Nat} {m : Sys} {c3 : Int32} (hjN : j < 500) (hKj : SK (B + 39 * j) m) : (SK (B + 39 * (j + 1)) (bd_X6_pass_64 w1 w2 j m c3).1) := by
  unfold bd_X6_pass_64
  by_cases h72 : c3 < w1
  · rw [if_pos h72]
    exact (by first | exact pass_K hKj (by omega) | exact SK.mono hKj (by omega))
  · rw [if_neg h72]
    exact (by first | exact pass_K hKj (by omega) | exact SK.mono hKj (by omega))
theorem fl_X6_pass_64 {B : Nat} {w1 : Int32} {w2 : Int32} {N : Nat} (hB : B + 39 * 500 < 2147483648) {m : Sys} {c3 : Int32} (hNc : N ≤ 500) (hKj : SK (B + 39 * 0) m) : (SK (B + 39 * N) (lf_X6_pass_64 w1 w2 N m c3).1) := by
  rw [lf_X6_pass_64_eq]
  unfold ly_X6_pass_64
  exact itr_inv (n := N) (s := (m, c3)) (P := fun jz s => (SK (B + 39 * jz) s.1)) (fun jz s => bd_X6_pass_64 w1 w2 jz s.1 s.2) (fun jz s hj hs => fb_X6_pass_64 hB (j := jz) (m := s.1) (c3 := s.2) (by omega) hs) hKj
theorem lp_X6_pass_64 {bb : Nat} {d n c s : Nat} {M : JM} {o : JO} {hf : JH} {B : Nat} {w1 : Int32} {w2 : Int32} {N : Nat} (hd : 4 ≤ d) (hB : B + 39 * 500 < 2147483648) (hNc : N ≤ 500) : ∀ (k j : Nat) (m : Sys) (c3 : Int32), j + k = N → w1 = nI N → (SK (B + 39 * j) m) → JV (Ev mtab mcode d) jcX6_pass (94, [(0, .ref (bb + 1)), (1, .int w1), (2, .int w2), (3, .int ((itr (fun jz s => bd_X6_pass_64 w1 w2 jz s.1 s.2) k j (m, c3)).2))], []) (n, c, s, sy bb ((itr (fun jz s => bd_X6_pass_64 w1 w2 jz s.1 s.2) k j (m, c3)).1) M) o hf → JV (Ev mtab mcode d) jcX6_pass (64, [(0, .ref (bb + 1)), (1, .int w1), (2, .int w2), (3, .int c3), (4, .int (nI j))], []) (n, c, s, sy bb m M) o hf := by
  intro k
  induction k with
  | zero =>
    intro j m c3 hj hN hKj hc
    refine JV.ild (p2 := 66) rfl rfl rfl ?_
    refine JV.ild (p2 := 67) rfl rfl rfl ?_
    refine JV.brT rfl rfl (by rw [hN]; exact nI_le (a := N) (b := j) (by omega) (by omega)) ?_
    exact JV.keep [0, 1, 2, 3] rfl hc
  | succ k ih =>
    intro j m c3 hj hN hKj hc
    obtain ⟨s1, hx⟩ : ∃ s1, bd_X6_pass_64 w1 w2 j m c3 = s1 := ⟨_, rfl⟩
    have hc2 : JV (Ev mtab mcode d) jcX6_pass (94, [(0, .ref (bb + 1)), (1, .int w1), (2, .int w2), (3, .int ((itr (fun jz s => bd_X6_pass_64 w1 w2 jz s.1 s.2) k (j + 1) s1).2))], []) (n, c, s, sy bb ((itr (fun jz s => bd_X6_pass_64 w1 w2 jz s.1 s.2) k (j + 1) s1).1) M) o hf := by
      subst hx
      exact hc
    clear hc
    have iv := fb_X6_pass_64 (w1 := w1) (w2 := w2) hB (j := j) (m := m) (c3 := c3) (by omega) hKj
    rw [hx] at iv
    unfold bd_X6_pass_64 at hx
    refine JV.ild (p2 := 66) rfl rfl rfl ?_
    refine JV.ild (p2 := 67) rfl rfl rfl ?_
    refine JV.brF (p2 := 70) rfl rfl rfl (by rw [hN]; exact nI_ge (a := j) (b := N) (by omega) (by omega)) ?_
    refine JV.ild (p2 := 71) rfl rfl rfl ?_
    refine JV.ild (p2 := 72) rfl rfl rfl ?_
    by_cases h72 : c3 < w1
    · rw [if_pos h72] at hx
      refine JV.brF (p2 := 75) rfl rfl rfl (Int32.not_le.mpr h72) ?_
      refine JV.ild (p2 := 76) rfl rfl rfl ?_
      refine JV.ald (p2 := 77) rfl rfl rfl ?_
      refine JV.getf (p2 := 80) rfl sy_X rfl rfl ?_
      refine JV.ild (p2 := 81) rfl rfl rfl ?_
      refine JV.ild (p2 := 82) rfl rfl rfl ?_
      refine JV.stk (len := 1) (sem := s_isub) (p2 := 83) rfl rfl rfl ?_
      refine JV.invI (p2 := 86) rfl rfl rfl sy1_F (Nat.le_of_ble_eq_true rfl) rfl (sy1_ev (ev_X1_passSome (by omega) hKj.w1 (by omega) rfl)) ?_
      refine JV.stk (len := 1) (sem := s_iadd) (p2 := 87) rfl rfl rfl ?_
      refine JV.ist (p2 := 88) rfl rfl rfl ?_
      refine JV.iinc (p2 := 91) rfl rfl (nI_1 _) rfl rfl ?_
      refine JV.goto rfl ?_
      subst hx
      exact ih (j + 1) _ _ (by omega) hN iv hc2
    · rw [if_neg h72] at hx
      refine JV.brT rfl rfl (Int32.not_lt.mp h72) ?_
      subst hx
      have fx : ∀ jz, (fun jz s => bd_X6_pass_64 w1 w2 jz s.1 s.2) jz (m, c3) = (m, c3) := fun jz => by
        show bd_X6_pass_64 w1 w2 jz m c3 = _
        unfold bd_X6_pass_64
        rw [if_neg h72]
      rw [itr_fix (f := (fun jz s => bd_X6_pass_64 w1 w2 jz s.1 s.2)) (s := (m, c3)) fx] at hc2
      exact JV.keep [0, 1, 2, 3] rfl hc2
theorem lq_X6_pass_64 {bb : Nat} {d n c s : Nat} {M : JM} {o : JO} {hf : JH} {B : Nat} {w1 : Int32} {w2 : Int32} {N : Nat} {m : Sys} {c3 : Int32} (hd : 4 ≤ d) (hB : B + 39 * 500 < 2147483648) (hNc : N ≤ 500) (hN : w1 = nI N) (hKj : SK (B + 39 * 0) m) (hc : JV (Ev mtab mcode d) jcX6_pass (94, [(0, .ref (bb + 1)), (1, .int w1), (2, .int w2), (3, .int ((lf_X6_pass_64 w1 w2 N m c3).2))], []) (n, c, s, sy bb ((lf_X6_pass_64 w1 w2 N m c3).1) M) o hf) : JV (Ev mtab mcode d) jcX6_pass (64, [(0, .ref (bb + 1)), (1, .int w1), (2, .int w2), (3, .int c3), (4, .int 0)], []) (n, c, s, sy bb m M) o hf := by
  rw [lf_X6_pass_64_eq] at hc
  unfold ly_X6_pass_64 at hc
  exact lp_X6_pass_64 hd hB hNc N 0 m c3 (by omega) hN hKj hc
noncomputable def y_X6_pass (m : Sys) (p1 : Int32) : Sys × (Int32 ⊕ String) := (if (x_X6_isOutside p1 1 500) = true then (m, (Sum.inr "java/lang/IllegalArgumentException" : Int32 ⊕ String)) else (if 10000 < ((m 1 0 0 3) + p1) then (m, (Sum.inr "java/lang/IllegalStateException" : Int32 ⊕ String)) else (((lf_X6_pass_64 p1 (x_X1_countAt ((x_X6_save m) 1) 5) (ix p1) (x_X6_save m) 0).1), (Sum.inl ((x_X1_countAt (((lf_X6_pass_64 p1 (x_X1_countAt ((x_X6_save m) 1) 5) (ix p1) (x_X6_save m) 0).1) 1) 5) - (x_X1_countAt ((x_X6_save m) 1) 5)) : Int32 ⊕ String))))
theorem xe_X6_pass : ∃ f, f = y_X6_pass := ⟨y_X6_pass, rfl⟩
noncomputable def x_X6_pass := Classical.choose xe_X6_pass
theorem x_X6_pass_eq : x_X6_pass = y_X6_pass := Classical.choose_spec xe_X6_pass
theorem ev_X6_pass {bb : Nat} {d n c s : Nat} {m : Sys} {M : JM} {p1 : Int32} {B : Nat} {res : Sys × (Int32 ⊕ String)} (hd : 6 ≤ d) (hK : SK B m) (hB : B + 19500 < 2147483648)  (hx : x_X6_pass m p1 = res) : Ev mtab mcode d 68 [.ref (bb + 1), .int p1] (n, c, s, sy bb m M) (jO res.2) (jH res.2 (n, c, s, sy bb m M) (n, c, s, sy bb res.1 M)) := by
  obtain ⟨d, rfl⟩ : ∃ e, d = e + 1 := ⟨d - 1, by omega⟩
  rw [x_X6_pass_eq] at hx
  unfold y_X6_pass at hx
  refine jv_mkS (m := mX6_pass) (cd := jcX6_pass) rfl rfl (Nat.le_of_ble_eq_true rfl) (fun _ => trivial) (by omega) rfl ?_
  refine JV.ild (p2 := 1) rfl rfl rfl ?_
  refine JV.stk (len := 1) (sem := (s_push (.int 1))) (p2 := 2) rfl rfl rfl ?_
  refine JV.stk (len := 3) (sem := (s_push (.int 500))) (p2 := 5) rfl rfl rfl ?_
  refine JV.insI (p2 := 8) rfl (Nat.le_of_ble_eq_true rfl) rfl rfl (Nat.le_of_ble_eq_true rfl) rfl (ev_X6_isOutside (by omega) rfl) rfl ?_
  by_cases h8 : (x_X6_isOutside p1 1 500) = true
  · rw [if_pos h8] at hx
    refine JV.brF (p2 := 11) rfl rfl rfl (bI_t h8) ?_
    subst hx
    exact JV.thr rfl (Nat.le_of_ble_eq_true rfl)
  · rw [if_neg h8] at hx
    refine JV.brT rfl rfl (bI_f h8) ?_
    refine JV.ald (p2 := 22) rfl rfl rfl ?_
    refine JV.getf (p2 := 25) rfl sy_X rfl rfl ?_
    refine JV.getf (p2 := 28) rfl sy1_F rfl rfl ?_
    refine JV.ild (p2 := 29) rfl rfl rfl ?_
    refine JV.stk (len := 1) (sem := s_iadd) (p2 := 30) rfl rfl rfl ?_
    refine JV.stk (len := 3) (sem := (s_push (.int 10000))) (p2 := 33) rfl rfl rfl ?_
    by_cases h33 : 10000 < ((m 1 0 0 3) + p1)
    · rw [if_pos h33] at hx
      refine JV.brF (p2 := 36) rfl rfl rfl (Int32.not_le.mpr h33) ?_
      subst hx
      exact JV.thr rfl (Nat.le_of_ble_eq_true rfl)
    · rw [if_neg h33] at hx
      refine JV.brT rfl rfl (Int32.not_lt.mp h33) ?_
      refine JV.ald (p2 := 47) rfl rfl rfl ?_
      have e47 := out_VN (k := 500) (by decide) (by decide) (by decide) h8
      refine JV.inv0 (p2 := 50) rfl rfl rfl sy_X (Nat.le_of_ble_eq_true rfl) rfl (ev_X6_save (by omega) hK rfl) ?_
      refine JV.ald (p2 := 51) rfl rfl rfl ?_
      refine JV.getf (p2 := 54) rfl sy_X rfl rfl ?_
      refine JV.stk (len := 1) (sem := (s_push (.int 5))) (p2 := 55) rfl rfl rfl ?_
      refine JV.invI (p2 := 58) rfl rfl rfl sy1_F (Nat.le_of_ble_eq_true rfl) rfl (sy1_ev0 (ev_X1_countAt (by omega) (sk_save hK).f1 rfl)) ?_
      refine JV.ist (p2 := 59) rfl rfl rfl ?_
      refine JV.stk (len := 1) (sem := (s_push (.int 0))) (p2 := 60) rfl rfl rfl ?_
      refine JV.ist (p2 := 61) rfl rfl rfl ?_
      refine JV.stk (len := 1) (sem := (s_push (.int 0))) (p2 := 62) rfl rfl rfl ?_
      refine JV.ist (p2 := 64) rfl rfl rfl ?_
      refine lq_X6_pass_64 (m := (x_X6_save m)) (c3 := 0) (N := (ix p1)) (w1 := p1) (w2 := (x_X1_countAt ((x_X6_save m) 1) 5)) (by omega) hB e47.2 e47.1 (SK.mono (sk_save hK) (by omega)) ?_
      have f94 : SK (B + 39 * ix p1) ((lf_X6_pass_64 p1 (x_X1_countAt ((x_X6_save m) 1) 5) (ix p1) (x_X6_save m) 0).1) := fl_X6_pass_64 (B := B) hB e47.2 (SK.mono (sk_save hK) (by omega))
      refine JV.ald (p2 := 95) rfl rfl rfl ?_
      refine JV.getf (p2 := 98) rfl sy_X rfl rfl ?_
      refine JV.stk (len := 1) (sem := (s_push (.int 5))) (p2 := 99) rfl rfl rfl ?_
      refine JV.invI (p2 := 102) rfl rfl rfl sy1_F (Nat.le_of_ble_eq_true rfl) rfl (sy1_ev0 (ev_X1_countAt (by omega) f94.f1 rfl)) ?_
      refine JV.ild (p2 := 103) rfl rfl rfl ?_
      refine JV.stk (len := 1) (sem := s_isub) (p2 := 104) rfl rfl rfl ?_
      subst hx
      exact JV.ret rfl (fun _ => rfl) rfl rfl
noncomputable def bd_X6_delayOf_47 (w1 : Int32) (u2 : Nat) (j : Nat) (m : Sys) (c3 : Int32) : Sys × Int32 := (if c3 < 3000 then (if (m 2 3 u2 7) = (-1) then ((us m 2 (x_X1_passSome (m 2) (3000 - c3)).1), (c3 + (x_X1_passSome (m 2) (3000 - c3)).2)) else (m, c3)) else (m, c3))
noncomputable def ly_X6_delayOf_47 (w1 : Int32) (u2 : Nat) (N : Nat) (m : Sys) (c3 : Int32) : Sys × Int32 := itr (fun jz s => bd_X6_delayOf_47 w1 u2 jz s.1 s.2) N 0 (m, c3)
theorem le_X6_delayOf_47 : ∃ f, f = ly_X6_delayOf_47 := ⟨ly_X6_delayOf_47, rfl⟩
noncomputable def lf_X6_delayOf_47 := Classical.choose le_X6_delayOf_47
theorem lf_X6_delayOf_47_eq : lf_X6_delayOf_47 = ly_X6_delayOf_47 := Classical.choose_spec le_X6_delayOf_47
theorem fb_X6_delayOf_47 {B : Nat} {w1 : Int32} {u2 : Nat} (hB : B + 117000 < 2147483648) (hu : u2 < 12) {j : Nat} {m : Sys} {c3 : Int32} (hjN : j < 3000) (hKj : SK (B + 39 * j) m) : (SK (B + 39 * (j + 1)) (bd_X6_delayOf_47 w1 u2 j m c3).1) := by
  unfold bd_X6_delayOf_47
  by_cases h59 : c3 < 3000
  · rw [if_pos h59]
    by_cases h67 : (m 2 3 u2 7) = (-1)
    · rw [if_pos h67]
      exact (by first | exact passT_K hKj (by omega) | exact SK.mono hKj (by omega))
    · rw [if_neg h67]
      exact (by first | exact passT_K hKj (by omega) | exact SK.mono hKj (by omega))
  · rw [if_neg h59]
    exact (by first | exact passT_K hKj (by omega) | exact SK.mono hKj (by omega))
theorem fl_X6_delayOf_47 {B : Nat} {w1 : Int32} {u2 : Nat} (hB : B + 117000 < 2147483648) (hu : u2 < 12) {m : Sys} {c3 : Int32} {N : Nat} (hNl : N = 3000) (hKj : SK (B + 39 * 0) m) : (SK (B + 39 * N) (lf_X6_delayOf_47 w1 u2 N m c3).1) := by
  rw [lf_X6_delayOf_47_eq]
  unfold ly_X6_delayOf_47
  exact itr_inv (n := N) (s := (m, c3)) (P := fun jz s => (SK (B + 39 * jz) s.1)) (fun jz s => bd_X6_delayOf_47 w1 u2 jz s.1 s.2) (fun jz s hj hs => fb_X6_delayOf_47 hB hu (j := jz) (m := s.1) (c3 := s.2) (by omega) hs) hKj
theorem lp_X6_delayOf_47 {bb : Nat} {d n c s : Nat} {M : JM} {o : JO} {hf : JH} {B : Nat} {w1 : Int32} {u2 : Nat} (hd : 4 ≤ d) (hB : B + 117000 < 2147483648) (hu : u2 < 12) : ∀ (k j : Nat) (m : Sys) (c3 : Int32), j + k = 3000 → (SK (B + 39 * j) m) → JV (Ev mtab mcode d) jcX6_delayOf (91, [(0, .ref (bb + 1)), (1, .int w1), (2, .ref (bb + 31 + 17 + u2)), (3, .int ((itr (fun jz s => bd_X6_delayOf_47 w1 u2 jz s.1 s.2) k j (m, c3)).2))], []) (n, c, s, sy bb ((itr (fun jz s => bd_X6_delayOf_47 w1 u2 jz s.1 s.2) k j (m, c3)).1) M) o hf → JV (Ev mtab mcode d) jcX6_delayOf (47, [(0, .ref (bb + 1)), (1, .int w1), (2, .ref (bb + 31 + 17 + u2)), (3, .int c3), (4, .int (nI j))], []) (n, c, s, sy bb m M) o hf := by
  intro k
  induction k with
  | zero =>
    intro j m c3 hj hKj hc
    refine JV.ild (p2 := 49) rfl rfl rfl ?_
    refine JV.stk (len := 3) (sem := (s_push (.int 3000))) (p2 := 52) rfl rfl rfl ?_
    refine JV.brT rfl rfl (by exact nI_le (a := 3000) (b := j) (by omega) (by omega)) ?_
    exact JV.keep [0, 1, 2, 3] rfl hc
  | succ k ih =>
    intro j m c3 hj hKj hc
    obtain ⟨s1, hx⟩ : ∃ s1, bd_X6_delayOf_47 w1 u2 j m c3 = s1 := ⟨_, rfl⟩
    have hc2 : JV (Ev mtab mcode d) jcX6_delayOf (91, [(0, .ref (bb + 1)), (1, .int w1), (2, .ref (bb + 31 + 17 + u2)), (3, .int ((itr (fun jz s => bd_X6_delayOf_47 w1 u2 jz s.1 s.2) k (j + 1) s1).2))], []) (n, c, s, sy bb ((itr (fun jz s => bd_X6_delayOf_47 w1 u2 jz s.1 s.2) k (j + 1) s1).1) M) o hf := by
      subst hx
      exact hc
    clear hc
    have iv := fb_X6_delayOf_47 (w1 := w1) (u2 := u2) hB hu (j := j) (m := m) (c3 := c3) (by omega) hKj
    rw [hx] at iv
    unfold bd_X6_delayOf_47 at hx
    refine JV.ild (p2 := 49) rfl rfl rfl ?_
    refine JV.stk (len := 3) (sem := (s_push (.int 3000))) (p2 := 52) rfl rfl rfl ?_
    refine JV.brF (p2 := 55) rfl rfl rfl (by exact nI_ge (a := j) (b := 3000) (by omega) (by omega)) ?_
    refine JV.ild (p2 := 56) rfl rfl rfl ?_
    refine JV.stk (len := 3) (sem := (s_push (.int 3000))) (p2 := 59) rfl rfl rfl ?_
    by_cases h59 : c3 < 3000
    · rw [if_pos h59] at hx
      refine JV.brF (p2 := 62) rfl rfl rfl (Int32.not_le.mpr h59) ?_
      refine JV.ald (p2 := 63) rfl rfl rfl ?_
      refine JV.getf (p2 := 66) rfl (sy2_A (by omega)) rfl rfl ?_
      refine JV.stk (len := 1) (sem := (s_push (.int (-1)))) (p2 := 67) rfl rfl rfl ?_
      by_cases h67 : (m 2 3 u2 7) = (-1)
      · rw [if_pos h67] at hx
        refine JV.brF (p2 := 70) rfl rfl rfl (fun e => e h67) ?_
        refine JV.ild (p2 := 71) rfl rfl rfl ?_
        refine JV.ald (p2 := 72) rfl rfl rfl ?_
        refine JV.getf (p2 := 75) rfl sy_X rfl rfl ?_
        refine JV.stk (len := 3) (sem := (s_push (.int 3000))) (p2 := 78) rfl rfl rfl ?_
        refine JV.ild (p2 := 79) rfl rfl rfl ?_
        refine JV.stk (len := 1) (sem := s_isub) (p2 := 80) rfl rfl rfl ?_
        refine JV.invI (p2 := 83) rfl rfl rfl sy2_F (Nat.le_of_ble_eq_true rfl) rfl (sy2_ev (ev_X1_passSome (by omega) hKj.w2 (by omega) rfl)) ?_
        refine JV.stk (len := 1) (sem := s_iadd) (p2 := 84) rfl rfl rfl ?_
        refine JV.ist (p2 := 85) rfl rfl rfl ?_
        refine JV.iinc (p2 := 88) rfl rfl (nI_1 _) rfl rfl ?_
        refine JV.goto rfl ?_
        subst hx
        exact ih (j + 1) _ _ (by omega) iv hc2
      · rw [if_neg h67] at hx
        refine JV.brT rfl rfl h67 ?_
        subst hx
        have fx : ∀ jz, (fun jz s => bd_X6_delayOf_47 w1 u2 jz s.1 s.2) jz (m, c3) = (m, c3) := fun jz => by
          show bd_X6_delayOf_47 w1 u2 jz m c3 = _
          unfold bd_X6_delayOf_47
          rw [if_pos h59, if_neg h67]
        rw [itr_fix (f := (fun jz s => bd_X6_delayOf_47 w1 u2 jz s.1 s.2)) (s := (m, c3)) fx] at hc2
        exact JV.keep [0, 1, 2, 3] rfl hc2
    · rw [if_neg h59] at hx
      refine JV.brT rfl rfl (Int32.not_lt.mp h59) ?_
      subst hx
      have fx : ∀ jz, (fun jz s => bd_X6_delayOf_47 w1 u2 jz s.1 s.2) jz (m, c3) = (m, c3) := fun jz => by
        show bd_X6_delayOf_47 w1 u2 jz m c3 = _
        unfold bd_X6_delayOf_47
        rw [if_neg h59]
      rw [itr_fix (f := (fun jz s => bd_X6_delayOf_47 w1 u2 jz s.1 s.2)) (s := (m, c3)) fx] at hc2
      exact JV.keep [0, 1, 2, 3] rfl hc2
theorem lq_X6_delayOf_47 {bb : Nat} {d n c s : Nat} {M : JM} {o : JO} {hf : JH} {B : Nat} {w1 : Int32} {u2 : Nat} {m : Sys} {c3 : Int32} (hd : 4 ≤ d) (hB : B + 117000 < 2147483648) (hu : u2 < 12) (hKj : SK (B + 39 * 0) m) (hc : JV (Ev mtab mcode d) jcX6_delayOf (91, [(0, .ref (bb + 1)), (1, .int w1), (2, .ref (bb + 31 + 17 + u2)), (3, .int ((lf_X6_delayOf_47 w1 u2 3000 m c3).2))], []) (n, c, s, sy bb ((lf_X6_delayOf_47 w1 u2 3000 m c3).1) M) o hf) : JV (Ev mtab mcode d) jcX6_delayOf (47, [(0, .ref (bb + 1)), (1, .int w1), (2, .ref (bb + 31 + 17 + u2)), (3, .int c3), (4, .int 0)], []) (n, c, s, sy bb m M) o hf := by
  rw [lf_X6_delayOf_47_eq] at hc
  unfold ly_X6_delayOf_47 at hc
  exact lp_X6_delayOf_47 hd hB hu 3000 0 m c3 (by omega) hKj hc
noncomputable def y_X6_delayOf (m : Sys) (p1 : Int32) : Sys × (Int32 ⊕ String) := (if (x_X1_hasAircraft (m 1) p1) = true then (((lf_X6_delayOf_47 p1 (ix p1) 3000 (us m 2 (x_X1_copyFrom (m 2) (m 1))) 0).1), (Sum.inl (((lf_X6_delayOf_47 p1 (ix p1) 3000 (us m 2 (x_X1_copyFrom (m 2) (m 1))) 0).1) 2 3 (ix p1) 7) : Int32 ⊕ String)) else (m, (Sum.inr "java/lang/IndexOutOfBoundsException" : Int32 ⊕ String)))
theorem xe_X6_delayOf : ∃ f, f = y_X6_delayOf := ⟨y_X6_delayOf, rfl⟩
noncomputable def x_X6_delayOf := Classical.choose xe_X6_delayOf
theorem x_X6_delayOf_eq : x_X6_delayOf = y_X6_delayOf := Classical.choose_spec xe_X6_delayOf
theorem ev_X6_delayOf {bb : Nat} {d n c s : Nat} {m : Sys} {M : JM} {p1 : Int32} {B : Nat} {res : Sys × (Int32 ⊕ String)} (hd : 6 ≤ d) (hK : SK B m) (hB : B + 117000 < 2147483648)  (hx : x_X6_delayOf m p1 = res) : Ev mtab mcode d 75 [.ref (bb + 1), .int p1] (n, c, s, sy bb m M) (jO res.2) (jH res.2 (n, c, s, sy bb m M) (n, c, s, sy bb res.1 M)) := by
  obtain ⟨d, rfl⟩ : ∃ e, d = e + 1 := ⟨d - 1, by omega⟩
  rw [x_X6_delayOf_eq] at hx
  unfold y_X6_delayOf at hx
  refine jv_mkS (m := mX6_delayOf) (cd := jcX6_delayOf) rfl rfl (Nat.le_of_ble_eq_true rfl) (fun _ => trivial) (by omega) rfl ?_
  refine JV.ald (p2 := 1) rfl rfl rfl ?_
  refine JV.getf (p2 := 4) rfl sy_X rfl rfl ?_
  refine JV.ild (p2 := 5) rfl rfl rfl ?_
  refine JV.invI (p2 := 8) rfl rfl rfl sy1_F (Nat.le_of_ble_eq_true rfl) rfl (sy1_ev0 (ev_X1_hasAircraft (by omega) rfl)) ?_
  by_cases h8 : (x_X1_hasAircraft (m 1) p1) = true
  · rw [if_pos h8] at hx
    refine JV.brT rfl rfl (bI_t h8) ?_
    refine JV.ald (p2 := 22) rfl rfl rfl ?_
    refine JV.getf (p2 := 25) rfl sy_X rfl rfl ?_
    refine JV.ald (p2 := 26) rfl rfl rfl ?_
    refine JV.getf (p2 := 29) rfl sy_X rfl rfl ?_
    refine JV.inv0 (p2 := 32) rfl rfl rfl sy2_F (Nat.le_of_ble_eq_true rfl) rfl (sy2_ev (ev_X1_copyFrom (by omega) hK.f1 sy_21 rfl)) ?_
    refine JV.ald (p2 := 33) rfl rfl rfl ?_
    refine JV.getf (p2 := 36) rfl sy_X rfl rfl ?_
    refine JV.getf (p2 := 39) rfl sy2_F rfl rfl ?_
    refine JV.ild (p2 := 40) rfl rfl rfl ?_
    have e40 := has_A hK.f1 h8
    have b40 := e40.2
    have c40 := hK.f1.na.2
    refine JV.aald (p2 := 41) rfl sy2_FA e40.1 (by omega) (by decide) (if_pos (by omega)) rfl ?_
    refine JV.ast (p2 := 42) rfl rfl rfl ?_
    refine JV.stk (len := 1) (sem := (s_push (.int 0))) (p2 := 43) rfl rfl rfl ?_
    refine JV.ist (p2 := 44) rfl rfl rfl ?_
    refine JV.stk (len := 1) (sem := (s_push (.int 0))) (p2 := 45) rfl rfl rfl ?_
    refine JV.ist (p2 := 47) rfl rfl rfl ?_
    refine lq_X6_delayOf_47 (m := (us m 2 (x_X1_copyFrom (m 2) (m 1)))) (c3 := 0) (w1 := p1) (u2 := (ix p1)) (by omega) hB (by omega) (SK.mono (sk_cpK hK) (by omega)) ?_
    refine JV.ald (p2 := 92) rfl rfl rfl ?_
    refine JV.getf (p2 := 95) rfl (sy2_A (by omega)) rfl rfl ?_
    subst hx
    exact JV.ret rfl (fun _ => rfl) rfl rfl
  · rw [if_neg h8] at hx
    refine JV.brF (p2 := 11) rfl rfl rfl (fun e => e (bI_f h8)) ?_
    subst hx
    exact JV.thr rfl (Nat.le_of_ble_eq_true rfl)
noncomputable def jy_X6_bestStand_j89 (m : Sys) (a1 : Int32) (a2 : Int32) (a3 : Int32) (a4 : Int32) (a5 : Int32) : Int32 × Int32 := (if a4 = 0 then (a1, a2) else (if a1 = (-1) then (a3, a5) else (if a5 < a2 then (a3, a5) else (a1, a2))))
theorem je_X6_bestStand_j89 : ∃ f, f = jy_X6_bestStand_j89 := ⟨jy_X6_bestStand_j89, rfl⟩
noncomputable def jf_X6_bestStand_j89 := Classical.choose je_X6_bestStand_j89
theorem jf_X6_bestStand_j89_eq : jf_X6_bestStand_j89 = jy_X6_bestStand_j89 := Classical.choose_spec je_X6_bestStand_j89
noncomputable def bd_X6_bestStand_6 (j : Nat) (m : Sys) (c1 : Int32) (c2 : Int32) : Sys × Int32 × Int32 := (if (m 1 1 j 0) < 4 then (if (x_X1_passUntilAllGone ((us (us m 2 (x_X1_copyFrom (m 2) (m 1))) 2 (up3 ((us m 2 (x_X1_copyFrom (m 2) (m 1))) 2) 1 j 0 (((us m 2 (x_X1_copyFrom (m 2) (m 1))) 2 1 j 0) + 1))) 2)).2 = (-1) then ((us (us (us m 2 (x_X1_copyFrom (m 2) (m 1))) 2 (up3 ((us m 2 (x_X1_copyFrom (m 2) (m 1))) 2) 1 j 0 (((us m 2 (x_X1_copyFrom (m 2) (m 1))) 2 1 j 0) + 1))) 2 (x_X1_passUntilAllGone ((us (us m 2 (x_X1_copyFrom (m 2) (m 1))) 2 (up3 ((us m 2 (x_X1_copyFrom (m 2) (m 1))) 2) 1 j 0 (((us m 2 (x_X1_copyFrom (m 2) (m 1))) 2 1 j 0) + 1))) 2)).1), ((jf_X6_bestStand_j89 (us (us (us m 2 (x_X1_copyFrom (m 2) (m 1))) 2 (up3 ((us m 2 (x_X1_copyFrom (m 2) (m 1))) 2) 1 j 0 (((us m 2 (x_X1_copyFrom (m 2) (m 1))) 2 1 j 0) + 1))) 2 (x_X1_passUntilAllGone ((us (us m 2 (x_X1_copyFrom (m 2) (m 1))) 2 (up3 ((us m 2 (x_X1_copyFrom (m 2) (m 1))) 2) 1 j 0 (((us m 2 (x_X1_copyFrom (m 2) (m 1))) 2 1 j 0) + 1))) 2)).1) c1 c2 (nI j) 0 (x_X1_sumOfBuses ((us (us (us m 2 (x_X1_copyFrom (m 2) (m 1))) 2 (up3 ((us m 2 (x_X1_copyFrom (m 2) (m 1))) 2) 1 j 0 (((us m 2 (x_X1_copyFrom (m 2) (m 1))) 2 1 j 0) + 1))) 2 (x_X1_passUntilAllGone ((us (us m 2 (x_X1_copyFrom (m 2) (m 1))) 2 (up3 ((us m 2 (x_X1_copyFrom (m 2) (m 1))) 2) 1 j 0 (((us m 2 (x_X1_copyFrom (m 2) (m 1))) 2 1 j 0) + 1))) 2)).1) 2))).1), ((jf_X6_bestStand_j89 (us (us (us m 2 (x_X1_copyFrom (m 2) (m 1))) 2 (up3 ((us m 2 (x_X1_copyFrom (m 2) (m 1))) 2) 1 j 0 (((us m 2 (x_X1_copyFrom (m 2) (m 1))) 2 1 j 0) + 1))) 2 (x_X1_passUntilAllGone ((us (us m 2 (x_X1_copyFrom (m 2) (m 1))) 2 (up3 ((us m 2 (x_X1_copyFrom (m 2) (m 1))) 2) 1 j 0 (((us m 2 (x_X1_copyFrom (m 2) (m 1))) 2 1 j 0) + 1))) 2)).1) c1 c2 (nI j) 0 (x_X1_sumOfBuses ((us (us (us m 2 (x_X1_copyFrom (m 2) (m 1))) 2 (up3 ((us m 2 (x_X1_copyFrom (m 2) (m 1))) 2) 1 j 0 (((us m 2 (x_X1_copyFrom (m 2) (m 1))) 2 1 j 0) + 1))) 2 (x_X1_passUntilAllGone ((us (us m 2 (x_X1_copyFrom (m 2) (m 1))) 2 (up3 ((us m 2 (x_X1_copyFrom (m 2) (m 1))) 2) 1 j 0 (((us m 2 (x_X1_copyFrom (m 2) (m 1))) 2 1 j 0) + 1))) 2)).1) 2))).2)) else ((us (us (us m 2 (x_X1_copyFrom (m 2) (m 1))) 2 (up3 ((us m 2 (x_X1_copyFrom (m 2) (m 1))) 2) 1 j 0 (((us m 2 (x_X1_copyFrom (m 2) (m 1))) 2 1 j 0) + 1))) 2 (x_X1_passUntilAllGone ((us (us m 2 (x_X1_copyFrom (m 2) (m 1))) 2 (up3 ((us m 2 (x_X1_copyFrom (m 2) (m 1))) 2) 1 j 0 (((us m 2 (x_X1_copyFrom (m 2) (m 1))) 2 1 j 0) + 1))) 2)).1), ((jf_X6_bestStand_j89 (us (us (us m 2 (x_X1_copyFrom (m 2) (m 1))) 2 (up3 ((us m 2 (x_X1_copyFrom (m 2) (m 1))) 2) 1 j 0 (((us m 2 (x_X1_copyFrom (m 2) (m 1))) 2 1 j 0) + 1))) 2 (x_X1_passUntilAllGone ((us (us m 2 (x_X1_copyFrom (m 2) (m 1))) 2 (up3 ((us m 2 (x_X1_copyFrom (m 2) (m 1))) 2) 1 j 0 (((us m 2 (x_X1_copyFrom (m 2) (m 1))) 2 1 j 0) + 1))) 2)).1) c1 c2 (nI j) 1 (x_X1_sumOfBuses ((us (us (us m 2 (x_X1_copyFrom (m 2) (m 1))) 2 (up3 ((us m 2 (x_X1_copyFrom (m 2) (m 1))) 2) 1 j 0 (((us m 2 (x_X1_copyFrom (m 2) (m 1))) 2 1 j 0) + 1))) 2 (x_X1_passUntilAllGone ((us (us m 2 (x_X1_copyFrom (m 2) (m 1))) 2 (up3 ((us m 2 (x_X1_copyFrom (m 2) (m 1))) 2) 1 j 0 (((us m 2 (x_X1_copyFrom (m 2) (m 1))) 2 1 j 0) + 1))) 2)).1) 2))).1), ((jf_X6_bestStand_j89 (us (us (us m 2 (x_X1_copyFrom (m 2) (m 1))) 2 (up3 ((us m 2 (x_X1_copyFrom (m 2) (m 1))) 2) 1 j 0 (((us m 2 (x_X1_copyFrom (m 2) (m 1))) 2 1 j 0) + 1))) 2 (x_X1_passUntilAllGone ((us (us m 2 (x_X1_copyFrom (m 2) (m 1))) 2 (up3 ((us m 2 (x_X1_copyFrom (m 2) (m 1))) 2) 1 j 0 (((us m 2 (x_X1_copyFrom (m 2) (m 1))) 2 1 j 0) + 1))) 2)).1) c1 c2 (nI j) 1 (x_X1_sumOfBuses ((us (us (us m 2 (x_X1_copyFrom (m 2) (m 1))) 2 (up3 ((us m 2 (x_X1_copyFrom (m 2) (m 1))) 2) 1 j 0 (((us m 2 (x_X1_copyFrom (m 2) (m 1))) 2 1 j 0) + 1))) 2 (x_X1_passUntilAllGone ((us (us m 2 (x_X1_copyFrom (m 2) (m 1))) 2 (up3 ((us m 2 (x_X1_copyFrom (m 2) (m 1))) 2) 1 j 0 (((us m 2 (x_X1_copyFrom (m 2) (m 1))) 2 1 j 0) + 1))) 2)).1) 2))).2))) else (m, c1, c2))
noncomputable def ly_X6_bestStand_6 (N : Nat) (m : Sys) (c1 : Int32) (c2 : Int32) : Sys × Int32 × Int32 := itr (fun jz s => bd_X6_bestStand_6 jz s.1 s.2.1 s.2.2) N 0 (m, c1, c2)
theorem le_X6_bestStand_6 : ∃ f, f = ly_X6_bestStand_6 := ⟨ly_X6_bestStand_6, rfl⟩
noncomputable def lf_X6_bestStand_6 := Classical.choose le_X6_bestStand_6
theorem lf_X6_bestStand_6_eq : lf_X6_bestStand_6 = ly_X6_bestStand_6 := Classical.choose_spec le_X6_bestStand_6
theorem fb_X6_bestStand_6 {B : Nat} (hB : B + 117000 < 2147483648) {j : Nat} {m : Sys} {c1 : Int32} {c2 : Int32} (hjN : j < 6) (hKj : SK (B + 117000) m) (hV : VN B (m 1 4 0 0)) : (SK (B + 117000) (bd_X6_bestStand_6 j m c1 c2).1) ∧ (VN B ((bd_X6_bestStand_6 j m c1 c2).1 1 4 0 0)) := by
  unfold bd_X6_bestStand_6
  by_cases h30 : (m 1 1 j 0) < 4
  · rw [if_pos h30]
    by_cases h70 : (x_X1_passUntilAllGone ((us (us m 2 (x_X1_copyFrom (m 2) (m 1))) 2 (up3 ((us m 2 (x_X1_copyFrom (m 2) (m 1))) 2) 1 j 0 (((us m 2 (x_X1_copyFrom (m 2) (m 1))) 2 1 j 0) + 1))) 2)).2 = (-1)
    · rw [if_pos h70]
      exact ⟨(by first | exact best_K hKj hV (by omega) hB | assumption), hV⟩
    · rw [if_neg h70]
      exact ⟨(by first | exact best_K hKj hV (by omega) hB | assumption), hV⟩
  · rw [if_neg h30]
    exact ⟨(by first | exact best_K hKj hV (by omega) hB | assumption), hV⟩
theorem fl_X6_bestStand_6 {B : Nat} {N : Nat} (hB : B + 117000 < 2147483648) {m : Sys} {c1 : Int32} {c2 : Int32} (hNc : N ≤ 6) (hKj : SK (B + 117000) m) (hV : VN B (m 1 4 0 0)) : (SK (B + 117000) (lf_X6_bestStand_6 N m c1 c2).1) ∧ (VN B ((lf_X6_bestStand_6 N m c1 c2).1 1 4 0 0)) := by
  rw [lf_X6_bestStand_6_eq]
  unfold ly_X6_bestStand_6
  exact itr_inv (n := N) (s := (m, c1, c2)) (P := fun jz s => (SK (B + 117000) s.1) ∧ (VN B (s.1 1 4 0 0))) (fun jz s => bd_X6_bestStand_6 jz s.1 s.2.1 s.2.2) (fun jz s hj hs => fb_X6_bestStand_6 hB (j := jz) (m := s.1) (c1 := s.2.1) (c2 := s.2.2) (by omega) hs.1 hs.2) ⟨hKj, hV⟩
noncomputable def y_X6_bestStand (m : Sys) : Sys × Int32 := (((lf_X6_bestStand_6 (ix (m 1 0 0 0)) m (-1) 0).1), ((lf_X6_bestStand_6 (ix (m 1 0 0 0)) m (-1) 0).2.1))
theorem xe_X6_bestStand : ∃ f, f = y_X6_bestStand := ⟨y_X6_bestStand, rfl⟩
noncomputable def x_X6_bestStand := Classical.choose xe_X6_bestStand
theorem x_X6_bestStand_eq : x_X6_bestStand = y_X6_bestStand := Classical.choose_spec xe_X6_bestStand
noncomputable def bd_X6_used_16 (m : Sys) (j : Nat) (c1 : Int32) : Int32 := (c1 + (m 1 1 j 2))
noncomputable def ly_X6_used_16 (m : Sys) (N : Nat) (c1 : Int32) : Int32 := itr (fun jz s => bd_X6_used_16 m jz s) N 0 c1
theorem le_X6_used_16 : ∃ f, f = ly_X6_used_16 := ⟨ly_X6_used_16, rfl⟩
noncomputable def lf_X6_used_16 := Classical.choose le_X6_used_16
theorem lf_X6_used_16_eq : lf_X6_used_16 = ly_X6_used_16 := Classical.choose_spec le_X6_used_16
theorem lp_X6_used_16 {bb : Nat} {d n c s : Nat} {M : JM} {o : JO} {hf : JH} {m : Sys} {N : Nat} (hd : 0 ≤ d) (hNc : N ≤ 6) (hN : m 1 0 0 0 = nI N) : ∀ (k j : Nat) (c1 : Int32), j + k = N → JV (Ev mtab mcode d) jcX6_used (48, [(0, .ref (bb + 1)), (1, .int (itr (fun jz s => bd_X6_used_16 m jz s) k j c1))], []) (n, c, s, sy bb m M) o hf → JV (Ev mtab mcode d) jcX6_used (16, [(0, .ref (bb + 1)), (1, .int c1), (2, .int (nI j))], []) (n, c, s, sy bb m M) o hf := by
  intro k
  induction k with
  | zero =>
    intro j c1 hj hc
    refine JV.ild (p2 := 17) rfl rfl rfl ?_
    refine JV.ald (p2 := 18) rfl rfl rfl ?_
    refine JV.getf (p2 := 21) rfl sy_X rfl rfl ?_
    refine JV.getf (p2 := 24) rfl sy1_F rfl rfl ?_
    refine JV.brT rfl rfl (by rw [hN]; exact nI_le (a := N) (b := j) (by omega) (by omega)) ?_
    exact JV.keep [0, 1] rfl hc
  | succ k ih =>
    intro j c1 hj hc
    obtain ⟨s1, hx⟩ : ∃ s1, bd_X6_used_16 m j c1 = s1 := ⟨_, rfl⟩
    have hc2 : JV (Ev mtab mcode d) jcX6_used (48, [(0, .ref (bb + 1)), (1, .int (itr (fun jz s => bd_X6_used_16 m jz s) k (j + 1) s1))], []) (n, c, s, sy bb m M) o hf := by
      subst hx
      exact hc
    clear hc
    unfold bd_X6_used_16 at hx
    refine JV.ild (p2 := 17) rfl rfl rfl ?_
    refine JV.ald (p2 := 18) rfl rfl rfl ?_
    refine JV.getf (p2 := 21) rfl sy_X rfl rfl ?_
    refine JV.getf (p2 := 24) rfl sy1_F rfl rfl ?_
    refine JV.brF (p2 := 27) rfl rfl rfl (by rw [hN]; exact nI_ge (a := j) (b := N) (by omega) (by omega)) ?_
    refine JV.ild (p2 := 28) rfl rfl rfl ?_
    refine JV.ald (p2 := 29) rfl rfl rfl ?_
    refine JV.getf (p2 := 32) rfl sy_X rfl rfl ?_
    refine JV.getf (p2 := 35) rfl sy1_F rfl rfl ?_
    refine JV.ild (p2 := 36) rfl rfl rfl ?_
    refine JV.aald (p2 := 37) rfl sy1_FS rfl (by omega) (by decide) (if_pos (by omega)) rfl ?_
    refine JV.getf (p2 := 40) rfl (sy1_S (by omega)) rfl rfl ?_
    refine JV.stk (len := 1) (sem := s_iadd) (p2 := 41) rfl rfl rfl ?_
    refine JV.ist (p2 := 42) rfl rfl rfl ?_
    refine JV.iinc (p2 := 45) rfl rfl (nI_1 _) rfl rfl ?_
    refine JV.goto rfl ?_
    subst hx
    exact ih (j + 1) _ (by omega) hc2
theorem lq_X6_used_16 {bb : Nat} {d n c s : Nat} {M : JM} {o : JO} {hf : JH} {m : Sys} {N : Nat} {c1 : Int32} (hd : 0 ≤ d) (hNc : N ≤ 6) (hN : m 1 0 0 0 = nI N)  (hc : JV (Ev mtab mcode d) jcX6_used (48, [(0, .ref (bb + 1)), (1, .int (lf_X6_used_16 m N c1))], []) (n, c, s, sy bb m M) o hf) : JV (Ev mtab mcode d) jcX6_used (16, [(0, .ref (bb + 1)), (1, .int c1), (2, .int 0)], []) (n, c, s, sy bb m M) o hf := by
  rw [lf_X6_used_16_eq] at hc
  unfold ly_X6_used_16 at hc
  exact lp_X6_used_16 hd hNc hN N 0 c1 (by omega) hc
noncomputable def y_X6_used (m : Sys) : UInt64 := (if (m 1 0 0 3) = 0 then FP.dconst0 else (FP.ddiv (FP.i2d (lf_X6_used_16 m (ix (m 1 0 0 0)) 0)) (FP.i2d ((m 1 0 0 0) * (m 1 0 0 3)))))
theorem xe_X6_used : ∃ f, f = y_X6_used := ⟨y_X6_used, rfl⟩
noncomputable def x_X6_used := Classical.choose xe_X6_used
theorem x_X6_used_eq : x_X6_used = y_X6_used := Classical.choose_spec xe_X6_used
theorem ev_X6_used {bb : Nat} {d n c s : Nat} {m : Sys} {M : JM}  {res : UInt64} (hd : 1 ≤ d) (hF : FK (m 1)) (hT : VN 13000 (m 1 0 0 3)) (hS : ¬ m 1 0 0 0 = 0)  (hx : x_X6_used m = res) : Ev mtab mcode d 79 [.ref (bb + 1)] (n, c, s, sy bb m M) (.inl (some (.double res))) (n, c, s, sy bb m M) := by
  obtain ⟨d, rfl⟩ : ∃ e, d = e + 1 := ⟨d - 1, by omega⟩
  rw [x_X6_used_eq] at hx
  unfold y_X6_used at hx
  refine jv_mk (m := mX6_used) (cd := jcX6_used) rfl rfl (Nat.le_of_ble_eq_true rfl) trivial ?_
  refine JV.ald (p2 := 1) rfl rfl rfl ?_
  refine JV.getf (p2 := 4) rfl sy_X rfl rfl ?_
  refine JV.getf (p2 := 7) rfl sy1_F rfl rfl ?_
  by_cases h7 : (m 1 0 0 3) = 0
  · rw [if_pos h7] at hx
    refine JV.brF (p2 := 10) rfl rfl rfl (fun e => e h7) ?_
    refine JV.stk (len := 1) (sem := (s_push (.double FP.dconst0))) (p2 := 11) rfl rfl rfl ?_
    subst hx
    exact JV.ret rfl (fun _ => rfl) rfl rfl
  · rw [if_neg h7] at hx
    refine JV.brT rfl rfl h7 ?_
    refine JV.stk (len := 1) (sem := (s_push (.int 0))) (p2 := 13) rfl rfl rfl ?_
    refine JV.ist (p2 := 14) rfl rfl rfl ?_
    refine JV.stk (len := 1) (sem := (s_push (.int 0))) (p2 := 15) rfl rfl rfl ?_
    refine JV.ist (p2 := 16) rfl rfl rfl ?_
    refine lq_X6_used_16 (c1 := 0) (N := (ix (m 1 0 0 0))) (m := m) (by omega) hF.ns.2 hF.ns.1 ?_
    refine JV.ild (p2 := 49) rfl rfl rfl ?_
    refine JV.stk (len := 1) (sem := s_i2d) (p2 := 50) rfl rfl rfl ?_
    refine JV.ald (p2 := 51) rfl rfl rfl ?_
    refine JV.getf (p2 := 54) rfl sy_X rfl rfl ?_
    refine JV.getf (p2 := 57) rfl sy1_F rfl rfl ?_
    refine JV.ald (p2 := 58) rfl rfl rfl ?_
    refine JV.getf (p2 := 61) rfl sy_X rfl rfl ?_
    refine JV.getf (p2 := 64) rfl sy1_F rfl rfl ?_
    refine JV.stk (len := 1) (sem := s_imul) (p2 := 65) rfl rfl rfl ?_
    refine JV.stk (len := 1) (sem := s_i2d) (p2 := 66) rfl rfl rfl ?_
    refine JV.ddiv (p2 := 67) rfl (dq_div _ (du_mul hF.ns hT hS h7)) rfl ?_
    subst hx
    exact JV.ret rfl (fun _ => rfl) rfl rfl
noncomputable def bd_X6_parse_31 (w1 : Int32) (j : Nat) (m : Sys) : Sys := (us m 1 (x_X1_add (m 1) (m 7 2 0 j) (m 7 3 0 j) (m 7 4 0 j) (m 7 5 0 j)))
noncomputable def ly_X6_parse_31 (w1 : Int32) (N : Nat) (m : Sys) : Sys := itr (fun jz s => bd_X6_parse_31 w1 jz s) N 0 m
theorem le_X6_parse_31 : ∃ f, f = ly_X6_parse_31 := ⟨ly_X6_parse_31, rfl⟩
noncomputable def lf_X6_parse_31 := Classical.choose le_X6_parse_31
theorem lf_X6_parse_31_eq : lf_X6_parse_31 = ly_X6_parse_31 := Classical.choose_spec le_X6_parse_31
theorem fb_X6_parse_31 {w1 : Int32} {j : Nat} {m : Sys} (hjN : j < 12) (hF : FK (m 1)) : (FK ((bd_X6_parse_31 w1 j m) 1)) := by
  unfold bd_X6_parse_31
  exact (fk_add hF)
theorem fl_X6_parse_31 {w1 : Int32} {N : Nat} {m : Sys} (hNc : N ≤ 12) (hF : FK (m 1)) : (FK ((lf_X6_parse_31 w1 N m) 1)) := by
  rw [lf_X6_parse_31_eq]
  unfold ly_X6_parse_31
  exact itr_inv (n := N) (s := m) (P := fun jz s => (FK (s 1))) (fun jz s => bd_X6_parse_31 w1 jz s) (fun jz s hj hs => fb_X6_parse_31 (j := jz) (m := s) (by omega) hs) hF
noncomputable def y_X6_parse (m : Sys) : Sys × Int32 := (if (x_X4_read (m 7)).2 = (-1) then ((lf_X6_parse_31 ((x_X4_read (m 7)).2) (ix ((x_X4_read (m 7)).1 0 0 1)) (us (x_X6_save (us m 7 (x_X4_read (m 7)).1)) 1 (x_X1_restart ((x_X6_save (us m 7 (x_X4_read (m 7)).1)) 1)))), ((lf_X6_parse_31 ((x_X4_read (m 7)).2) (ix ((x_X4_read (m 7)).1 0 0 1)) (us (x_X6_save (us m 7 (x_X4_read (m 7)).1)) 1 (x_X1_restart ((x_X6_save (us m 7 (x_X4_read (m 7)).1)) 1)))) 7 0 0 1)) else ((us m 7 (x_X4_read (m 7)).1), ((-10) - (x_X4_read (m 7)).2)))
theorem xe_X6_parse : ∃ f, f = y_X6_parse := ⟨y_X6_parse, rfl⟩
noncomputable def x_X6_parse := Classical.choose xe_X6_parse
theorem x_X6_parse_eq : x_X6_parse = y_X6_parse := Classical.choose_spec xe_X6_parse
noncomputable def bd_X6_digest_15 (m : Sys) (j : Nat) (c1 : Int64) : Int64 := ((31 * c1) + ((x_X1_answer (m 1) (nI j))).toInt64)
noncomputable def ly_X6_digest_15 (m : Sys) (N : Nat) (c1 : Int64) : Int64 := itr (fun jz s => bd_X6_digest_15 m jz s) N 0 c1
theorem le_X6_digest_15 : ∃ f, f = ly_X6_digest_15 := ⟨ly_X6_digest_15, rfl⟩
noncomputable def lf_X6_digest_15 := Classical.choose le_X6_digest_15
theorem lf_X6_digest_15_eq : lf_X6_digest_15 = ly_X6_digest_15 := Classical.choose_spec le_X6_digest_15
noncomputable def bd_X6_digest_59 (m : Sys) (j : Nat) (jj : Nat) (c1 : Int64) : Int64 := ((31 * c1) + ((x_X1_standAnswer (m 1) j (nI jj))).toInt64)
noncomputable def ly_X6_digest_59 (m : Sys) (j : Nat) (N : Nat) (c1 : Int64) : Int64 := itr (fun jz s => bd_X6_digest_59 m j jz s) N 0 c1
theorem le_X6_digest_59 : ∃ f, f = ly_X6_digest_59 := ⟨ly_X6_digest_59, rfl⟩
noncomputable def lf_X6_digest_59 := Classical.choose le_X6_digest_59
theorem lf_X6_digest_59_eq : lf_X6_digest_59 = ly_X6_digest_59 := Classical.choose_spec le_X6_digest_59
noncomputable def bd_X6_digest_45 (m : Sys) (j : Nat) (c1 : Int64) : Int64 := (lf_X6_digest_59 m j 4 c1)
noncomputable def ly_X6_digest_45 (m : Sys) (N : Nat) (c1 : Int64) : Int64 := itr (fun jz s => bd_X6_digest_45 m jz s) N 0 c1
theorem le_X6_digest_45 : ∃ f, f = ly_X6_digest_45 := ⟨ly_X6_digest_45, rfl⟩
noncomputable def lf_X6_digest_45 := Classical.choose le_X6_digest_45
theorem lf_X6_digest_45_eq : lf_X6_digest_45 = ly_X6_digest_45 := Classical.choose_spec le_X6_digest_45
noncomputable def bd_X6_digest_111 (m : Sys) (j : Nat) (jj : Nat) (c1 : Int64) : Int64 := ((31 * c1) + ((x_X5_answer (m 1) j (nI jj))).toInt64)
noncomputable def ly_X6_digest_111 (m : Sys) (j : Nat) (N : Nat) (c1 : Int64) : Int64 := itr (fun jz s => bd_X6_digest_111 m j jz s) N 0 c1
theorem le_X6_digest_111 : ∃ f, f = ly_X6_digest_111 := ⟨ly_X6_digest_111, rfl⟩
noncomputable def lf_X6_digest_111 := Classical.choose le_X6_digest_111
theorem lf_X6_digest_111_eq : lf_X6_digest_111 = ly_X6_digest_111 := Classical.choose_spec le_X6_digest_111
noncomputable def bd_X6_digest_97 (m : Sys) (j : Nat) (c1 : Int64) : Int64 := (lf_X6_digest_111 m j 5 c1)
noncomputable def ly_X6_digest_97 (m : Sys) (N : Nat) (c1 : Int64) : Int64 := itr (fun jz s => bd_X6_digest_97 m jz s) N 0 c1
theorem le_X6_digest_97 : ∃ f, f = ly_X6_digest_97 := ⟨ly_X6_digest_97, rfl⟩
noncomputable def lf_X6_digest_97 := Classical.choose le_X6_digest_97
theorem lf_X6_digest_97_eq : lf_X6_digest_97 = ly_X6_digest_97 := Classical.choose_spec le_X6_digest_97
noncomputable def bd_X6_digest_167 (m : Sys) (j : Nat) (jj : Nat) (c1 : Int64) : Int64 := ((31 * c1) + ((x_X0_answer (m 1) j (nI jj))).toInt64)
noncomputable def ly_X6_digest_167 (m : Sys) (j : Nat) (N : Nat) (c1 : Int64) : Int64 := itr (fun jz s => bd_X6_digest_167 m j jz s) N 0 c1
theorem le_X6_digest_167 : ∃ f, f = ly_X6_digest_167 := ⟨ly_X6_digest_167, rfl⟩
noncomputable def lf_X6_digest_167 := Classical.choose le_X6_digest_167
theorem lf_X6_digest_167_eq : lf_X6_digest_167 = ly_X6_digest_167 := Classical.choose_spec le_X6_digest_167
noncomputable def bd_X6_digest_153 (m : Sys) (j : Nat) (c1 : Int64) : Int64 := ((31 * (lf_X6_digest_167 m j 10 c1)) + ((x_X1_reason (m 1) j)).toInt64)
noncomputable def ly_X6_digest_153 (m : Sys) (N : Nat) (c1 : Int64) : Int64 := itr (fun jz s => bd_X6_digest_153 m jz s) N 0 c1
theorem le_X6_digest_153 : ∃ f, f = ly_X6_digest_153 := ⟨ly_X6_digest_153, rfl⟩
noncomputable def lf_X6_digest_153 := Classical.choose le_X6_digest_153
theorem lf_X6_digest_153_eq : lf_X6_digest_153 = ly_X6_digest_153 := Classical.choose_spec le_X6_digest_153
noncomputable def bd_X6_digest_243 (m : Sys) (j : Nat) (jj : Nat) (c1 : Int64) : Int64 := ((31 * c1) + ((x_X2_answer (m 1) (nI j) (nI jj))).toInt64)
noncomputable def ly_X6_digest_243 (m : Sys) (j : Nat) (N : Nat) (c1 : Int64) : Int64 := itr (fun jz s => bd_X6_digest_243 m j jz s) N 0 c1
theorem le_X6_digest_243 : ∃ f, f = ly_X6_digest_243 := ⟨ly_X6_digest_243, rfl⟩
noncomputable def lf_X6_digest_243 := Classical.choose le_X6_digest_243
theorem lf_X6_digest_243_eq : lf_X6_digest_243 = ly_X6_digest_243 := Classical.choose_spec le_X6_digest_243
noncomputable def bd_X6_digest_226 (m : Sys) (j : Nat) (c1 : Int64) : Int64 := (lf_X6_digest_243 m j 3 c1)
noncomputable def ly_X6_digest_226 (m : Sys) (N : Nat) (c1 : Int64) : Int64 := itr (fun jz s => bd_X6_digest_226 m jz s) N 0 c1
theorem le_X6_digest_226 : ∃ f, f = ly_X6_digest_226 := ⟨ly_X6_digest_226, rfl⟩
noncomputable def lf_X6_digest_226 := Classical.choose le_X6_digest_226
theorem lf_X6_digest_226_eq : lf_X6_digest_226 = ly_X6_digest_226 := Classical.choose_spec le_X6_digest_226
noncomputable def y_X6_digest (m : Sys) : Sys × Int64 := ((x_X6_minutesToAll m).1, ((31 * ((31 * (lf_X6_digest_226 m (min (ix (m 1 4 0 0)) 30) (lf_X6_digest_153 m (ix (m 1 0 0 2)) (lf_X6_digest_97 m (ix (m 1 0 0 1)) (lf_X6_digest_45 m (ix (m 1 0 0 0)) (lf_X6_digest_15 m 16 (109771 + ((m 7 0 0 0)).toInt64))))))) + ((x_X6_minutesToAll m).2).toInt64)) + (((x_X6_minutesToAll m).1 0 0 0 0)).toInt64))
theorem xe_X6_digest : ∃ f, f = y_X6_digest := ⟨y_X6_digest, rfl⟩
noncomputable def x_X6_digest := Classical.choose xe_X6_digest
theorem x_X6_digest_eq : x_X6_digest = y_X6_digest := Classical.choose_spec xe_X6_digest
