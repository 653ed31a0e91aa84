/-! the constructors of timetable, model and class -/
section IN2
variable {bb d n c s b q k : Nat} {M : JM} {o : JO} {hf : JH}
theorem ev_X4_init (hM : M b = .inr (4, [.null, .int 0, .null, .null, .null, .null, .int 0, .int 0, .int 0])) : Ev mtab mcode (d + 1) 47 [.ref b] (b + 1, c, s, M) (.inl none) (b + 6, c + 5, s + 90 + 12 + 12 + 12 + 12, tm b mz M) := by
  refine ev_mk (m := mX4_init) (cd := jcX4_init) rfl rfl (Nat.le_of_ble_eq_true rfl) trivial ?_
  refine JR.ald (p2 := 1) rfl rfl rfl ?_
  refine JR.oini (p2 := 4) rfl (Nat.le_of_ble_eq_true rfl) rfl ?_
  refine JR.ald (p2 := 5) rfl rfl rfl ?_
  refine JR.stk (len := 2) (sem := (s_push (.int 90))) (p2 := 7) rfl rfl rfl ?_
  refine JR.newi (p2 := 9) (K := 90) rfl (va1 (by omega)) (vs1 (by omega)) (by decide) (by decide) (by decide) rfl ?_
  refine JR.putr (p2 := 12) rfl ((va_up_ne _ _ (by omega)).trans hM) (Nat.le_of_ble_eq_true rfl) (by omega) rfl ?_
  refine JR.ald (p2 := 13) rfl rfl rfl ?_
  refine JR.stk (len := 2) (sem := (s_push (.int 12))) (p2 := 15) rfl rfl rfl ?_
  refine JR.newi (p2 := 17) (K := 12) rfl (va1 (by omega)) (vs1 (by omega)) (by decide) (by decide) (by decide) rfl ?_
  refine JR.putr (p2 := 20) rfl ((va_up_ne _ _ (by omega)).trans (va_up_self _ _ _)) (Nat.le_of_ble_eq_true rfl) (by omega) rfl ?_
  refine JR.ald (p2 := 21) rfl rfl rfl ?_
  refine JR.stk (len := 2) (sem := (s_push (.int 12))) (p2 := 23) rfl rfl rfl ?_
  refine JR.newi (p2 := 25) (K := 12) rfl (va1 (by omega)) (vs1 (by omega)) (by decide) (by decide) (by decide) rfl ?_
  refine JR.putr (p2 := 28) rfl ((va_up_ne _ _ (by omega)).trans (va_up_self _ _ _)) (Nat.le_of_ble_eq_true rfl) (by omega) rfl ?_
  refine JR.ald (p2 := 29) rfl rfl rfl ?_
  refine JR.stk (len := 2) (sem := (s_push (.int 12))) (p2 := 31) rfl rfl rfl ?_
  refine JR.newi (p2 := 33) (K := 12) rfl (va1 (by omega)) (vs1 (by omega)) (by decide) (by decide) (by decide) rfl ?_
  refine JR.putr (p2 := 36) rfl ((va_up_ne _ _ (by omega)).trans (va_up_self _ _ _)) (Nat.le_of_ble_eq_true rfl) (by omega) rfl ?_
  refine JR.ald (p2 := 37) rfl rfl rfl ?_
  refine JR.stk (len := 2) (sem := (s_push (.int 12))) (p2 := 39) rfl rfl rfl ?_
  refine JR.newi (p2 := 41) (K := 12) rfl (va1 (by omega)) (vs1 (by omega)) (by decide) (by decide) (by decide) rfl ?_
  refine JR.putr (p2 := 44) rfl ((va_up_ne _ _ (by omega)).trans (va_up_self _ _ _)) (Nat.le_of_ble_eq_true rfl) (by omega) rfl ?_
  refine JR.mem (M' := tm b mz M) ?_ ?_
  · funext q
    by_cases e0 : q = b
    · subst e0
      rw [va_up_self, tm_T]
      rfl
    rw [va_up_ne _ _ e0]
    by_cases e5 : q = b + 5
    · rw [e5, tm_5]
      exact (va_up_self _ _ _).trans rfl
    rw [va_up_ne _ _ e5, va_up_ne _ _ e0]
    by_cases e4 : q = b + 4
    · rw [e4, tm_4]
      exact (va_up_self _ _ _).trans rfl
    rw [va_up_ne _ _ e4, va_up_ne _ _ e0]
    by_cases e3 : q = b + 3
    · rw [e3, tm_3]
      exact (va_up_self _ _ _).trans rfl
    rw [va_up_ne _ _ e3, va_up_ne _ _ e0]
    by_cases e2 : q = b + 2
    · rw [e2, tm_2]
      exact (va_up_self _ _ _).trans rfl
    rw [va_up_ne _ _ e2, va_up_ne _ _ e0]
    by_cases e1 : q = b + 1
    · rw [e1, tm_1]
      exact (va_up_self _ _ _).trans rfl
    rw [va_up_ne _ _ e1]
    exact (um_out (L := layT) (show ¬ (b ≤ q ∧ q < b + 6) by omega)).symm
  exact JR.retv (m := 4) rfl rfl rfl rfl
theorem mw_mz : MW 0 mz mz := by
  have v : VX 12 (0 : Int32) := Or.inr ⟨by decide +kernel, by decide +kernel⟩
  exact ⟨⟨vn_0, vn_0, vn_0, vn_0, v, v, v⟩, rfl, fun _ _ => rfl⟩
noncomputable def mF : Mem := x_X1_build mz 3 1
theorem ev_F (hd : 5 ≤ d) : Ev mtab mcode d 6 [.ref b] (b + 1, c, s, va_up M b (.inr (1, [.null, .null, .null, .null, .int 0, .int 0, .int 0, .int 0, .int 0, .int 0]))) (.inl none) (b + 29, c + 28, s + 268, fm b mF M) := by
  obtain ⟨d, rfl⟩ : ∃ e, d = e + 2 := ⟨d - 2, by omega⟩
  have q := ev_X1_init (d := d) (c := c) (s := s) (b := b) (M := va_up M b (.inr (1, [.null, .null, .null, .null, .int 0, .int 0, .int 0, .int 0, .int 0, .int 0]))) (by omega) (va_up_self _ _ _)
  have e : fm b (x_X1_build mz 3 1) (va_up M b (.inr (1, [.null, .null, .null, .null, .int 0, .int 0, .int 0, .int 0, .int 0, .int 0]))) = fm b mF M := by
    funext q
    by_cases g : b ≤ q ∧ q < b + 29
    · exact (um_in (L := layF) g).trans (um_in (L := layF) g).symm
    · refine (um_out (L := layF) g).trans ((va_up_ne _ _ (by omega)).trans (um_out (L := layF) g).symm)
  rw [e] at q
  exact q
theorem jf2 {n p a b : Nat} (ha : a < n) (hb : b < n) : jfr n (p, [(0, .ref a)], [.ref b, .ref a]) = true := jf1 hb ha
theorem jf3 {n p a b e : Nat} {x y : Int32} (ha : a < n) (hb : b < n) (he : e < n) : jfr n (p, [(1, .int x), (0, .ref a)], [.ref b, .int y, .ref e]) = true := by simp [jfr, vfb, ha, hb, he]
theorem jf4 {n p a b : Nat} {x : Int32} (ha : a < n) (hb : b < n) : jfr n (p, [(1, .int x), (0, .ref a)], [.ref b, .ref a]) = true := by simp [jfr, vfb, ha, hb]
noncomputable def x6 (bb k : Nat) (M : JM) : JM := fun q => if q = bb + 1 then .inr (6, [.ref (bb + 2), .ref (bb + 31), .ref (bb + 60), .int 0, .null]) else if q = bb + 60 then .inl (6, 4, .inr (.inr (.inr (.inr fun i => if i < k then some (bb + 61 + 29 * i) else none)))) else if bb + 2 ≤ q ∧ q < bb + 31 then fm (bb + 2) mF M q else if bb + 31 ≤ q ∧ q < bb + 60 then fm (bb + 31) mF M q else if bb + 61 ≤ q ∧ q < bb + 61 + 29 * k then fm (bb + 61 + 29 * ((q - (bb + 61)) / 29)) mF M q else M q
theorem x6_1 : x6 bb k M (bb + 1) = .inr (6, [.ref (bb + 2), .ref (bb + 31), .ref (bb + 60), .int 0, .null]) := if_pos rfl
theorem x6_60 : x6 bb k M (bb + 60) = .inl (6, 4, .inr (.inr (.inr (.inr fun i => if i < k then some (bb + 61 + 29 * i) else none)))) := by
  unfold x6
  rw [if_neg (by omega), if_pos rfl]
theorem rq_up : va_up (fun i => if i < k then some (bb + 61 + 29 * i) else none) k (some (bb + 61 + 29 * k)) = fun i => if i < k + 1 then some (bb + 61 + 29 * i) else none := by
  funext i
  by_cases e : i = k
  · subst e
    rw [va_up_self, if_pos (by omega)]
  · rw [va_up_ne _ _ e]
    by_cases l : i < k
    · rw [if_pos l, if_pos (by omega)]
    · rw [if_neg l, if_neg (by omega)]
theorem fm_in {M M' : JM} {m : Mem} (h : b ≤ q ∧ q < b + 29) : fm b m M q = fm b m M' q := (um_in (L := layF) h).trans (um_in (L := layF) h).symm
theorem x6_s (hk : k < 4) : va_up (fm (bb + 61 + 29 * k) mF (x6 bb k M)) (bb + 60) (.inl (6, 4, .inr (.inr (.inr (.inr (va_up (fun i => if i < k then some (bb + 61 + 29 * i) else none) k (some (bb + 61 + 29 * k)))))))) = x6 bb (k + 1) M := by
  funext q
  rw [rq_up]
  by_cases e : q = bb + 60
  · subst e
    rw [va_up_self, x6_60]
  rw [va_up_ne _ _ e]
  by_cases g : bb + 61 + 29 * k ≤ q ∧ q < bb + 61 + 29 * k + 29
  · unfold x6
    rw [if_neg (by omega), if_neg (by omega), if_neg (by omega), if_neg (by omega), if_pos (by omega), show (q - (bb + 61)) / 29 = k by omega]
    exact fm_in g
  · refine (um_out (L := layF) g).trans ?_
    unfold x6
    by_cases h1 : q = bb + 1
    · rw [if_pos h1, if_pos h1]
    rw [if_neg h1, if_neg h1, if_neg e, if_neg e]
    by_cases h2 : bb + 2 ≤ q ∧ q < bb + 31
    · rw [if_pos h2, if_pos h2]
    rw [if_neg h2, if_neg h2]
    by_cases h3 : bb + 31 ≤ q ∧ q < bb + 60
    · rw [if_pos h3, if_pos h3]
    rw [if_neg h3, if_neg h3]
    by_cases h4 : bb + 61 ≤ q ∧ q < bb + 61 + 29 * k
    · rw [if_pos h4, if_pos (show bb + 61 ≤ q ∧ q < bb + 61 + 29 * (k + 1) by omega)]
    rw [if_neg h4, if_neg (show ¬ (bb + 61 ≤ q ∧ q < bb + 61 + 29 * (k + 1)) by omega)]
theorem lp_X6i (hd : 5 ≤ d) : ∀ (e k c s : Nat), k + e = 4 → JR (Ev mtab mcode d) jcX6_init (60, [(1, .int (nI 4)), (0, .ref (bb + 1))], []) (bb + 177, c + 29 * e, s + 278 * e, x6 bb 4 M) o hf → JR (Ev mtab mcode d) jcX6_init (36, [(1, .int (nI k)), (0, .ref (bb + 1))], []) (bb + 61 + 29 * k, c, s, x6 bb k M) o hf := by
  intro e
  induction e with
  | zero =>
    intro k c s hk kk
    have : k = 4 := by omega
    subst this
    refine JR.ild (p2 := 37) rfl rfl rfl ?_
    refine JR.stk (len := 1) (sem := (s_push (.int 4))) (p2 := 38) rfl rfl rfl ?_
    refine JR.brT rfl rfl (by exact nI_le (a := 4) (b := 4) (by omega) (by omega)) ?_
    exact kk
  | succ e ih =>
    intro k c s hk kk
    refine JR.ild (p2 := 37) rfl rfl rfl ?_
    refine JR.stk (len := 1) (sem := (s_push (.int 4))) (p2 := 38) rfl rfl rfl ?_
    refine JR.brF (p2 := 41) rfl rfl rfl (by exact nI_ge (a := k) (b := 4) (by omega) (by omega)) ?_
    refine JR.ald (p2 := 42) rfl rfl rfl ?_
    refine JR.getf (p2 := 45) (v := .ref (bb + 60)) rfl x6_1 rfl rfl ?_
    refine JR.ild (p2 := 46) rfl rfl rfl ?_
    refine JR.new (p2 := 49) rfl (va3 (by omega)) (vsi (by omega)) rfl ?_
    refine JR.stk (len := 1) (sem := s_dup) (p2 := 50) rfl rfl rfl ?_
    refine JR.ini (p2 := 53) rfl rfl rfl (Nat.le_of_ble_eq_true rfl) rfl (ev_F hd) (jf3 (by omega) (by omega) (by omega)) ?_
    refine JR.aast (p2 := 54) (j := k) rfl ((um_out (L := layF) (b := bb + 61 + 29 * k) (q := bb + 60) (by show ¬ (bb + 61 + 29 * k ≤ bb + 60 ∧ bb + 60 < bb + 61 + 29 * k + 29); omega)).trans x6_60) rfl (by omega) (by decide) fm_F rfl ?_
    refine JR.mem (x6_s (by omega)) ?_
    refine JR.iinc (p2 := 57) rfl rfl (nI_1 k) rfl rfl ?_
    refine JR.goto rfl ?_
    have z := ih (k + 1) (c + 1 + 28) (s + 10 + 268) (by omega) (by
      rw [show c + 1 + 28 + 29 * e = c + 29 * (e + 1) by omega, show s + 10 + 268 + 278 * e = s + 278 * (e + 1) by omega]
      exact kk)
    rw [show bb + 61 + 29 * (k + 1) = bb + 61 + 29 * k + 29 by omega] at z
    exact z
noncomputable def S0 : Sys := fun u => if u = 0 then (fun f _ k => if f = 1 then nI k else 0) else if u = 7 then mz else mF
theorem ev_X6_init (hM : M (bb + 1) = .inr (6, [.null, .null, .null, .int 0, .null])) : Ev mtab mcode (d + 6) 61 [.ref (bb + 1)] (bb + 2, c, s, M) (.inl none) (bb + 183, c + 181, s + 1819, sy bb S0 M) := by
  refine ev_mk (m := mX6_init) (cd := jcX6_init) rfl rfl (Nat.le_of_ble_eq_true rfl) trivial ?_
  refine JR.ald (p2 := 1) rfl rfl rfl ?_
  refine JR.oini (p2 := 4) rfl (Nat.le_of_ble_eq_true rfl) rfl ?_
  refine JR.ald (p2 := 5) rfl rfl rfl ?_
  refine JR.new (p2 := 8) rfl (va1 (by omega)) (vs1 (by omega)) rfl ?_
  refine JR.stk (len := 1) (sem := s_dup) (p2 := 9) rfl rfl rfl ?_
  refine JR.ini (p2 := 12) rfl rfl rfl (Nat.le_of_ble_eq_true rfl) rfl (ev_F (b := bb + 2) (by omega)) (jf2 (by omega) (by omega)) ?_
  refine JR.putr (p2 := 15) rfl ((um_out (L := layF) (b := bb + 2) (q := bb + 1) (show ¬ (bb + 2 ≤ bb + 1 ∧ bb + 1 < bb + 2 + 29) by omega)).trans hM) (Nat.le_of_ble_eq_true rfl) (by omega) rfl ?_
  refine JR.ald (p2 := 16) rfl rfl rfl ?_
  refine JR.new (p2 := 19) rfl (va1 (by omega)) (vs1 (by omega)) rfl ?_
  refine JR.stk (len := 1) (sem := s_dup) (p2 := 20) rfl rfl rfl ?_
  refine JR.ini (p2 := 23) rfl rfl rfl (Nat.le_of_ble_eq_true rfl) rfl (ev_F (b := bb + 31) (by omega)) (jf2 (by omega) (by omega)) ?_
  refine JR.putr (p2 := 26) rfl ((um_out (L := layF) (b := bb + 31) (q := bb + 1) (show ¬ (bb + 31 ≤ bb + 1 ∧ bb + 1 < bb + 31 + 29) by omega)).trans (va_up_self _ _ _)) (Nat.le_of_ble_eq_true rfl) (by omega) rfl ?_
  refine JR.ald (p2 := 27) rfl rfl rfl ?_
  refine JR.stk (len := 1) (sem := (s_push (.int 4))) (p2 := 28) rfl rfl rfl ?_
  refine JR.newq (p2 := 31) (K := 4) rfl (va1 (by omega)) (vs1 (by omega)) (by decide) (by decide) (by decide) rfl ?_
  refine JR.putr (p2 := 34) rfl ((va_up_ne _ _ (by omega)).trans (va_up_self _ _ _)) (Nat.le_of_ble_eq_true rfl) (by omega) rfl ?_
  refine JR.mem (M' := x6 bb 0 M) ?_ ?_
  · funext q
    by_cases e1 : q = bb + 1
    · subst e1
      rw [va_up_self, x6_1]
      rfl
    rw [va_up_ne _ _ e1]
    by_cases e60 : q = bb + 60
    · subst e60
      rw [x6_60]
      exact (va_up_self _ _ _).trans rfl
    have n60 : q ≠ bb + 31 + 29 := e60
    rw [va_up_ne _ _ n60, va_up_ne _ _ e1]
    unfold x6
    rw [if_neg e1, if_neg e60]
    by_cases g2 : bb + 31 ≤ q ∧ q < bb + 60
    · rw [if_neg (by omega), if_pos g2]
      exact fm_in g2
    refine (um_out (L := layF) (b := bb + 31) g2).trans ?_
    rw [va_up_ne _ _ e1]
    by_cases g1 : bb + 2 ≤ q ∧ q < bb + 31
    · rw [if_pos g1]
    rw [if_neg g1, if_neg g2, if_neg (by omega)]
    exact um_out (L := layF) (b := bb + 2) g1
  refine JR.stk (len := 1) (sem := (s_push (.int 0))) (p2 := 35) rfl rfl rfl ?_
  refine JR.ist (p2 := 36) rfl rfl rfl ?_
  refine lp_X6i (by omega) 4 0 _ _ rfl ?_
  refine JR.ald (p2 := 61) rfl rfl rfl ?_
  refine JR.stk (len := 1) (sem := (s_push (.int 0))) (p2 := 62) rfl rfl rfl ?_
  refine JR.puti (p2 := 65) rfl x6_1 (Nat.le_of_ble_eq_true rfl) rfl rfl ?_
  refine JR.ald (p2 := 66) rfl rfl rfl ?_
  refine JR.new (p2 := 69) rfl (va3 (by omega)) (vs1 (by omega)) rfl ?_
  refine JR.stk (len := 1) (sem := s_dup) (p2 := 70) rfl rfl rfl ?_
  refine JR.ini (p2 := 73) rfl rfl rfl (Nat.le_of_ble_eq_true rfl) rfl (ev_X4_init (va_up_self _ _ _)) (jf4 (by omega) (by omega)) ?_
  refine JR.putr (p2 := 76) rfl ((um_out (L := layT) (b := bb + 177) (q := bb + 1) (show ¬ (bb + 177 ≤ bb + 1 ∧ bb + 1 < bb + 177 + 6) by omega)).trans ((va_up_ne _ _ (by omega)).trans (va_up_self _ _ _))) (Nat.le_of_ble_eq_true rfl) (by omega) rfl ?_
  refine JR.mem (M' := sy bb S0 M) ?_ ?_
  · funext q
    by_cases e1 : q = bb + 1
    · subst e1
      rw [va_up_self, sy_atX (by omega)]
      rfl
    rw [va_up_ne _ _ e1]
    by_cases g7 : bb + 177 ≤ q ∧ q < bb + 183
    · rw [sy_at7 g7]
      exact (um_in (L := layT) (b := bb + 177) g7).trans rfl
    refine (um_out (L := layT) (b := bb + 177) g7).trans ?_
    rw [va_up_ne _ _ (by omega), va_up_ne _ _ e1]
    unfold x6
    rw [if_neg e1]
    by_cases e60 : q = bb + 60
    · subst e60
      rw [if_pos rfl, sy_atQ (by omega)]
      have : (fun i => if i < 4 then some (bb + 61 + 29 * i) else none) = fun i => if i < 4 then some (bb + 61 + 29 * ix (nI i)) else none := by
        funext i
        by_cases l : i < 4
        · rw [if_pos l, if_pos l, ix_nI (by omega)]
        · rw [if_neg l, if_neg l]
      rw [this]
      rfl
    rw [if_neg e60]
    by_cases h1 : bb + 2 ≤ q ∧ q < bb + 31
    · rw [if_pos h1, sy_at1 h1]
      exact (um_in (L := layF) (b := bb + 2) h1).trans rfl
    rw [if_neg h1]
    by_cases h2 : bb + 31 ≤ q ∧ q < bb + 60
    · rw [if_pos h2, sy_at2 h2]
      exact (um_in (L := layF) (b := bb + 31) h2).trans rfl
    rw [if_neg h2]
    by_cases h3 : bb + 61 ≤ q ∧ q < bb + 90
    · rw [if_pos (by omega), show (q - (bb + 61)) / 29 = 0 by omega, sy_at3 h3]
      exact (um_in (L := layF) (b := bb + 61) h3).trans rfl
    by_cases h4 : bb + 90 ≤ q ∧ q < bb + 119
    · rw [if_pos (by omega), show (q - (bb + 61)) / 29 = 1 by omega, sy_at4 h4]
      exact (um_in (L := layF) (b := bb + 90) h4).trans rfl
    by_cases h5 : bb + 119 ≤ q ∧ q < bb + 148
    · rw [if_pos (by omega), show (q - (bb + 61)) / 29 = 2 by omega, sy_at5 h5]
      exact (um_in (L := layF) (b := bb + 119) h5).trans rfl
    by_cases h6 : bb + 148 ≤ q ∧ q < bb + 177
    · rw [if_pos (by omega), show (q - (bb + 61)) / 29 = 3 by omega, sy_at6 h6]
      exact (um_in (L := layF) (b := bb + 148) h6).trans rfl
    rw [if_neg (by omega), sy_out (by omega)]
  refine JR.retv (m := 4) rfl rfl rfl ?_
  rw [show c + 1 + 28 + 1 + 28 + 1 + 29 * 4 + 1 + 5 = c + 181 by omega, show s + 10 + 268 + 10 + 268 + 4 + 278 * 4 + 9 + 90 + 12 + 12 + 12 + 12 = s + 1819 by omega]
end IN2

