/-! the law's run -/
section LAW
variable {n c s B B' L : Nat} {S T S' T' : Sys} {x v a b : Int32} {hf : JH} {q k : Nat} {xs : Nat → Int32}
theorem JV.cell {E : JE} {cd : List (Nat × JA)} {pc p2 : Nat} {l : List (Nat × Value)} {r : List Value} {h hf : JH} {o : JO} {i : Int32} (hl : jlk cd pc = some (a_cell L xs)) (hi : ¬ i < 0) (hr : jcat r ≤ 8) (hL : L < 2 ^ 31) (hp : pc + 3 = p2) (kk : JV E cd (p2, l, .int (cellv L xs i) :: r) h o hf) : JV E cd (pc, l, .int i :: .ref 0 :: r) h o hf := by
  subst hp
  intro e he
  refine JR.one hl ?_ (kk e he)
  unfold a_cell
  dsimp only
  rw [if_pos ⟨rfl, hi, hr, hL⟩]
set_option maxRecDepth 100000 in
theorem law_loop (hL : L < 2 ^ 31) : ∀ (e k B : Nat) (S T : Sys), k + e = 42 → LI B S T → CE (S 1) → ix (S 1 0 0 3) ≤ 20 * k → B + 3000000 * e + 3000000 < 2147483648 → ∃ S' T', LI (B + 3000000 * e) S' T' ∧ ix (S' 1 0 0 3) ≤ 840 ∧ ∀ (hf : JH), JV (Ev mtab mcode 8) (jcL_law L xs) (82, [(0, .ref 0), (1, .ref 1), (2, .ref 183), (3, .int 1), (4, .int (nI 42))], []) (n, c, s, lw S' T') (.inl (some (.int 1))) hf → JV (Ev mtab mcode 8) (jcL_law L xs) (30, [(0, .ref 0), (1, .ref 1), (2, .ref 183), (3, .int 1), (4, .int (nI k))], []) (n, c, s, lw S T) (.inl (some (.int 1))) hf
  | 0, k, B, S, T, hk, h, hC, ht, hB => by
    have hk : k = 42 := by omega
    subst hk
    refine ⟨S, T, h, by omega, fun hf kk => ?_⟩
    refine JV.ild (p2 := 32) rfl rfl rfl ?_
    refine JV.stk (len := 2) (sem := (s_push (.int 42))) (p2 := 34) rfl rfl rfl ?_
    refine JV.brT rfl rfl (by exact nI_le (a := 42) (b := 42) (by omega) (by omega)) ?_
    exact kk
  | e + 1, k, B, S, T, hk, h, hC, ht, hB => by
    obtain ⟨S1, T1, h1, c1, t1, e1⟩ := ev_step (n := n) (c := c) (s := s) (x := cellv L xs (nI k)) h hC (by omega) (by omega)
    obtain ⟨S2, T2, h2, x2, y2, e2⟩ := ev_alike (n := n) (c := c) (s := s) h1 (by omega)
    obtain ⟨B2, hB2⟩ : ∃ B2, B2 = B + 3000000 := ⟨_, rfl⟩
    obtain ⟨S', T', h3, t3, kk⟩ := law_loop hL e (k + 1) B2 S2 T2 (by omega) (h2.mono (by omega) (by omega)) (by rw [x2]; exact c1) (by rw [x2]; omega) (by omega)
    have b1 : B2 + 3000000 * e ≤ B + 3000000 * (e + 1) := by omega
    have b2 : B + 3000000 * (e + 1) + 200000 < 2147483648 := Nat.lt_of_le_of_lt (Nat.add_le_add_left (Nat.le_of_ble_eq_true rfl) _) hB
    refine ⟨S', T', h3.mono b1 b2, t3, fun hf kn => ?_⟩
    refine JV.ild (p2 := 32) rfl rfl rfl ?_
    refine JV.stk (len := 2) (sem := (s_push (.int 42))) (p2 := 34) rfl rfl rfl ?_
    refine JV.brF (p2 := 37) rfl rfl rfl (by exact nI_ge (a := k) (b := 42) (by omega) (by omega)) ?_
    refine JV.ild (p2 := 38) rfl rfl rfl ?_
    refine JV.brF (p2 := 41) rfl rfl rfl (by decide) ?_
    refine JV.ald (p2 := 42) rfl rfl rfl ?_
    refine JV.ald (p2 := 43) rfl rfl rfl ?_
    refine JV.ald (p2 := 44) rfl rfl rfl ?_
    refine JV.ild (p2 := 46) rfl rfl rfl ?_
    refine JV.cell (p2 := 49) rfl (nI_pos (by omega)) (Nat.le_of_ble_eq_true rfl) hL rfl ?_
    refine JV.insI (p2 := 52) rfl (Nat.le_of_ble_eq_true rfl) rfl rfl (Nat.le_of_ble_eq_true rfl) rfl (e1) rfl ?_
    refine JV.brF (p2 := 55) rfl rfl rfl (by decide) ?_
    refine JV.ald (p2 := 56) rfl rfl rfl ?_
    refine JV.ald (p2 := 57) rfl rfl rfl ?_
    refine JV.insI (p2 := 60) rfl (Nat.le_of_ble_eq_true rfl) rfl rfl (Nat.le_of_ble_eq_true rfl) rfl (e2) rfl ?_
    refine JV.brF (p2 := 63) rfl rfl rfl (by decide) ?_
    refine JV.ald (p2 := 64) rfl rfl rfl ?_
    refine JV.insI (p2 := 67) rfl (Nat.le_of_ble_eq_true rfl) rfl rfl (Nat.le_of_ble_eq_true rfl) rfl (ev_sound h2) rfl ?_
    refine JV.brF (p2 := 70) rfl rfl rfl (by decide) ?_
    refine JV.stk (len := 1) (sem := (s_push (.int 1))) (p2 := 71) rfl rfl rfl ?_
    refine JV.goto rfl ?_
    refine JV.ist (p2 := 76) rfl rfl rfl ?_
    refine JV.iinc (p2 := 79) rfl rfl (nI_1 k) rfl rfl ?_
    refine JV.goto rfl ?_
    exact kk hf kn
set_option maxRecDepth 100000 in
theorem law_end (h : LI B S T) (ht : ix (S 1 0 0 3) ≤ 840) (hB : B + 1000000 < 2147483648) : ∃ M : JM, ∀ (hf : JH), hf = (n, c, s, M) → JV (Ev mtab mcode 8) (jcL_law L xs) (82, [(0, .ref 0), (1, .ref 1), (2, .ref 183), (3, .int 1), (4, .int (nI 42))], []) (n, c, s, lw S T) (.inl (some (.int 1))) hf := by
  have bd := h.bd
  have hm := h.mins (B' := B + 117100) (by omega) (by omega)
  have s1 : (x_X6_minutesToAll S).1 1 = S 1 := mins_of.1
  have h1 : LI (B + 117100) (x_X6_minutesToAll S).1 T := h.to (by omega) hm.1.1 (by rw [s1]; exact EQ.rf)
  have gn := h.gone (P := 40) (by decide) (by omega)
  generalize hS1 : (x_X6_minutesToAll S).1 = S1 at hm s1 h1
  generalize hA : (x_X6_minutesToAll S).2 = A at hm gn
  have bd1 := h1.bd
  obtain ⟨v, p1, -, p3, h2, t2⟩ := h1.pas (P := 40) (B' := B + 136800) (by decide) (by decide) (by rw [s1]; omega) (by omega) (by omega)
  obtain ⟨-, o2, o3⟩ := pass_of (P := 40) h1.qq.1 h1.sv.1 (by decide) (by decide) (by omega) (by rw [s1]; omega)
  generalize (x_X6_pass T (nI 40)).1 = T2 at h2
  generalize hS2 : (x_X6_pass S1 (nI 40)).1 = S2 at h2 t2 o2 o3
  have bd2 := h2.bd
  rw [s1] at o2 t2
  obtain ⟨w, u1, u2, u3⟩ := undo_eq (S := S1) (S' := S2) h1.k1 (fun u a _ => o3 u a)
  have h3 : LI (B + 136800) (x_X6_undo S2).1 T := h1.to (by omega) (h2.1.elim fun μ z => by
    have y := (call_undo z (Nat.le_refl _) bd2).2
    rw [u1] at y
    exact ⟨_, y⟩) u3
  generalize hS3 : (x_X6_undo S2).1 = S3 at h3 u3
  have bd3 := h3.bd
  have q3 : S3 1 0 0 3 = S 1 0 0 3 := by rw [u3.1 3 (by decide), s1]
  have q11 : x_X1_answer (S3 1) (nI 11) = x_X1_answer (S 1) (nI 11) := (an_tw (w := nI 11) h3.2.2.2.2).symm.trans (an_tw (w := nI 11) h.2.2.2.2)
  have hm3 := h3.mins (B' := B + 253900) (by omega) (by omega)
  have qA : (x_X6_minutesToAll S3).2 = A := hm3.2.symm.trans hm.2
  have vm := h.i1.mi
  have m2 : S2 1 0 0 3 = S 1 0 0 3 + 40 := by
    rw [h2.i1.mi.1, t2]
    conv => rhs; rw [vm.1]
    exact (nI_add _ 40).symm
  have na2 : S2 1 0 0 2 = S 1 0 0 2 := by
    rw [o2]
    exact mk_na (k := 40) h.qq.1 (by omega) (by omega) 2 (by decide)
  refine ⟨lw (x_X6_minutesToAll S3).1 T, fun hf hh => ?_⟩
  refine JV.ald (p2 := 83) rfl rfl rfl ?_
  refine JV.stk (len := 1) (sem := (s_push (.int 3))) (p2 := 84) rfl rfl rfl ?_
  refine JV.invI (p2 := 87) rfl rfl rfl lw_o (Nat.le_of_ble_eq_true rfl) rfl (o_value (by omega) h.k1 bd (vl_of (k := 3) (by decide) rfl)) ?_
  refine JV.top (an_3) ?_
  refine JV.ist (p2 := 89) rfl rfl rfl ?_
  refine JV.ald (p2 := 90) rfl rfl rfl ?_
  refine JV.stk (len := 2) (sem := (s_push (.int 11))) (p2 := 92) rfl rfl rfl ?_
  refine JV.invI (p2 := 95) rfl rfl rfl lw_o (Nat.le_of_ble_eq_true rfl) rfl (o_value (by omega) h.k1 bd (vl_of (k := 11) (by decide) rfl)) ?_
  refine JV.ist (p2 := 97) rfl rfl rfl ?_
  refine JV.ald (p2 := 98) rfl rfl rfl ?_
  refine JV.invI (p2 := 101) rfl rfl rfl lw_o (Nat.le_of_ble_eq_true rfl) rfl (o_minutesToAll (by omega) h.k1 bd) ?_
  rw [hS1, hA]
  refine JV.ist (p2 := 103) rfl rfl rfl ?_
  refine JV.ild (p2 := 104) rfl rfl rfl ?_
  refine JV.brF (p2 := 107) rfl rfl rfl (by decide) ?_
  refine JV.ald (p2 := 108) rfl rfl rfl ?_
  refine JV.stk (len := 2) (sem := (s_push (.int 40))) (p2 := 110) rfl rfl rfl ?_
  refine JV.top (show (40 : Int32) = nI 40 from rfl) ?_
  refine JV.invI (p2 := 113) rfl rfl rfl lw_o (Nat.le_of_ble_eq_true rfl) rfl (o_pass (by omega) h1.k1 bd1 p1) ?_
  rw [hS2]
  refine JV.brF (p2 := 116) rfl rfl rfl (p3) ?_
  refine JV.ald (p2 := 117) rfl rfl rfl ?_
  refine JV.stk (len := 1) (sem := (s_push (.int 3))) (p2 := 118) rfl rfl rfl ?_
  refine JV.invI (p2 := 121) rfl rfl rfl lw_o (Nat.le_of_ble_eq_true rfl) rfl (o_value (by omega) h2.k1 bd2 (vl_of (k := 3) (by decide) rfl)) ?_
  refine JV.top (an_3) ?_
  refine JV.ild (p2 := 123) rfl rfl rfl ?_
  refine JV.stk (len := 2) (sem := (s_push (.int 40))) (p2 := 125) rfl rfl rfl ?_
  refine JV.stk (len := 1) (sem := s_iadd) (p2 := 126) rfl rfl rfl ?_
  refine JV.brF (p2 := 129) rfl rfl rfl (fun z => z m2) ?_
  refine JV.ild (p2 := 131) rfl rfl rfl ?_
  by_cases g : A < 0
  · refine JV.brT rfl rfl (g) ?_
    refine JV.ald (p2 := 156) rfl rfl rfl ?_
    refine JV.invI (p2 := 159) rfl rfl rfl lw_o (Nat.le_of_ble_eq_true rfl) rfl (o_undo (by omega) h2.k1 bd2 u1) ?_
    rw [hS3]
    refine JV.brF (p2 := 162) rfl rfl rfl (u2) ?_
    refine JV.ald (p2 := 163) rfl rfl rfl ?_
    refine JV.stk (len := 1) (sem := (s_push (.int 3))) (p2 := 164) rfl rfl rfl ?_
    refine JV.invI (p2 := 167) rfl rfl rfl lw_o (Nat.le_of_ble_eq_true rfl) rfl (o_value (by omega) h3.k1 bd3 (vl_of (k := 3) (by decide) rfl)) ?_
    refine JV.top (an_3) ?_
    refine JV.ild (p2 := 169) rfl rfl rfl ?_
    refine JV.brF (p2 := 172) rfl rfl rfl (fun z => z q3) ?_
    refine JV.ald (p2 := 173) rfl rfl rfl ?_
    refine JV.stk (len := 2) (sem := (s_push (.int 11))) (p2 := 175) rfl rfl rfl ?_
    refine JV.invI (p2 := 178) rfl rfl rfl lw_o (Nat.le_of_ble_eq_true rfl) rfl (o_value (by omega) h3.k1 bd3 (vl_of (k := 11) (by decide) rfl)) ?_
    refine JV.ild (p2 := 180) rfl rfl rfl ?_
    refine JV.brF (p2 := 183) rfl rfl rfl (fun z => z q11) ?_
    refine JV.ald (p2 := 184) rfl rfl rfl ?_
    refine JV.invI (p2 := 187) rfl rfl rfl lw_o (Nat.le_of_ble_eq_true rfl) rfl (o_minutesToAll (by omega) h3.k1 bd3) ?_
    refine JV.ild (p2 := 189) rfl rfl rfl ?_
    refine JV.brF (p2 := 192) rfl rfl rfl (fun z => z qA) ?_
    refine JV.stk (len := 1) (sem := (s_push (.int 1))) (p2 := 193) rfl rfl rfl ?_
    refine JV.goto rfl ?_
    exact JV.ret rfl (fun _ => rfl) rfl hh
  · refine JV.brF (p2 := 134) rfl rfl rfl (g) ?_
    refine JV.ild (p2 := 136) rfl rfl rfl ?_
    refine JV.stk (len := 2) (sem := (s_push (.int 40))) (p2 := 138) rfl rfl rfl ?_
    by_cases g2 : 40 < A
    · refine JV.brT rfl rfl (g2) ?_
      refine JV.ald (p2 := 156) rfl rfl rfl ?_
      refine JV.invI (p2 := 159) rfl rfl rfl lw_o (Nat.le_of_ble_eq_true rfl) rfl (o_undo (by omega) h2.k1 bd2 u1) ?_
      rw [hS3]
      refine JV.brF (p2 := 162) rfl rfl rfl (u2) ?_
      refine JV.ald (p2 := 163) rfl rfl rfl ?_
      refine JV.stk (len := 1) (sem := (s_push (.int 3))) (p2 := 164) rfl rfl rfl ?_
      refine JV.invI (p2 := 167) rfl rfl rfl lw_o (Nat.le_of_ble_eq_true rfl) rfl (o_value (by omega) h3.k1 bd3 (vl_of (k := 3) (by decide) rfl)) ?_
      refine JV.top (an_3) ?_
      refine JV.ild (p2 := 169) rfl rfl rfl ?_
      refine JV.brF (p2 := 172) rfl rfl rfl (fun z => z q3) ?_
      refine JV.ald (p2 := 173) rfl rfl rfl ?_
      refine JV.stk (len := 2) (sem := (s_push (.int 11))) (p2 := 175) rfl rfl rfl ?_
      refine JV.invI (p2 := 178) rfl rfl rfl lw_o (Nat.le_of_ble_eq_true rfl) rfl (o_value (by omega) h3.k1 bd3 (vl_of (k := 11) (by decide) rfl)) ?_
      refine JV.ild (p2 := 180) rfl rfl rfl ?_
      refine JV.brF (p2 := 183) rfl rfl rfl (fun z => z q11) ?_
      refine JV.ald (p2 := 184) rfl rfl rfl ?_
      refine JV.invI (p2 := 187) rfl rfl rfl lw_o (Nat.le_of_ble_eq_true rfl) rfl (o_minutesToAll (by omega) h3.k1 bd3) ?_
      refine JV.ild (p2 := 189) rfl rfl rfl ?_
      refine JV.brF (p2 := 192) rfl rfl rfl (fun z => z qA) ?_
      refine JV.stk (len := 1) (sem := (s_push (.int 1))) (p2 := 193) rfl rfl rfl ?_
      refine JV.goto rfl ?_
      exact JV.ret rfl (fun _ => rfl) rfl hh
    · refine JV.brF (p2 := 141) rfl rfl rfl (g2) ?_
      refine JV.ald (p2 := 142) rfl rfl rfl ?_
      refine JV.stk (len := 2) (sem := (s_push (.int 11))) (p2 := 144) rfl rfl rfl ?_
      refine JV.invI (p2 := 147) rfl rfl rfl lw_o (Nat.le_of_ble_eq_true rfl) rfl (o_value (by omega) h2.k1 bd2 (vl_of (k := 11) (by decide) rfl)) ?_
      refine JV.ald (p2 := 148) rfl rfl rfl ?_
      refine JV.stk (len := 1) (sem := (s_push (.int 2))) (p2 := 149) rfl rfl rfl ?_
      refine JV.invI (p2 := 152) rfl rfl rfl lw_o (Nat.le_of_ble_eq_true rfl) rfl (o_value (by omega) h2.k1 bd2 (vl_of (k := 2) (by decide) rfl)) ?_
      refine JV.top (an_2) ?_
      refine JV.brF (p2 := 155) rfl rfl rfl (fun z => z (by rw [an_11 h2.i1, na2, o2, gn g g2]; exact h.i1.na.1.symm)) ?_
      refine JV.ald (p2 := 156) rfl rfl rfl ?_
      refine JV.invI (p2 := 159) rfl rfl rfl lw_o (Nat.le_of_ble_eq_true rfl) rfl (o_undo (by omega) h2.k1 bd2 u1) ?_
      rw [hS3]
      refine JV.brF (p2 := 162) rfl rfl rfl (u2) ?_
      refine JV.ald (p2 := 163) rfl rfl rfl ?_
      refine JV.stk (len := 1) (sem := (s_push (.int 3))) (p2 := 164) rfl rfl rfl ?_
      refine JV.invI (p2 := 167) rfl rfl rfl lw_o (Nat.le_of_ble_eq_true rfl) rfl (o_value (by omega) h3.k1 bd3 (vl_of (k := 3) (by decide) rfl)) ?_
      refine JV.top (an_3) ?_
      refine JV.ild (p2 := 169) rfl rfl rfl ?_
      refine JV.brF (p2 := 172) rfl rfl rfl (fun z => z q3) ?_
      refine JV.ald (p2 := 173) rfl rfl rfl ?_
      refine JV.stk (len := 2) (sem := (s_push (.int 11))) (p2 := 175) rfl rfl rfl ?_
      refine JV.invI (p2 := 178) rfl rfl rfl lw_o (Nat.le_of_ble_eq_true rfl) rfl (o_value (by omega) h3.k1 bd3 (vl_of (k := 11) (by decide) rfl)) ?_
      refine JV.ild (p2 := 180) rfl rfl rfl ?_
      refine JV.brF (p2 := 183) rfl rfl rfl (fun z => z q11) ?_
      refine JV.ald (p2 := 184) rfl rfl rfl ?_
      refine JV.invI (p2 := 187) rfl rfl rfl lw_o (Nat.le_of_ble_eq_true rfl) rfl (o_minutesToAll (by omega) h3.k1 bd3) ?_
      refine JV.ild (p2 := 189) rfl rfl rfl ?_
      refine JV.brF (p2 := 192) rfl rfl rfl (fun z => z qA) ?_
      refine JV.stk (len := 1) (sem := (s_push (.int 1))) (p2 := 193) rfl rfl rfl ?_
      refine JV.goto rfl ?_
      exact JV.ret rfl (fun _ => rfl) rfl hh
theorem lw_0 {X Y : JC} : sy 182 S0 (va_up (sy 0 S0 (va_up hf0 1 X)) 183 Y) = lw S0 S0 := by
  rw [lw_sw]
  funext q
  by_cases g : 182 < q ∧ q < 182 + 183
  · exact sy_any g.1 g.2
  · rw [sy_out (S := S0) (bb := 182) (M := va_up (sy 0 S0 (va_up hf0 1 X)) 183 Y) (by omega), sy_out (S := S0) (bb := 182) (M := sy 0 S0 hf0) (by omega), va_up_ne _ _ (by omega)]
    by_cases g2 : 0 < q ∧ q < 0 + 183
    · exact sy_any g2.1 g2.2
    · rw [sy_out (S := S0) (bb := 0) (M := va_up hf0 1 X) (by omega), sy_out (S := S0) (bb := 0) (M := hf0) (by omega), va_up_ne _ _ (by omega)]
set_option maxRecDepth 100000 in
theorem law_run (L : Nat) (xs : Nat → Int32) (hL : L ≤ 260) : ∃ (k : Nat) (hf : JH), hf.2.1 ≤ 600104 ∧ hf.2.2.1 ≤ 7301314 ∧ JG (Ev mtab mcode 8) (jcL_law L xs) k (0, lv_args 0 [.ref 0], []) (1, 0, 0, hf0) (.inl (some (.int 1))) hf := by
  have hL : L < 2 ^ 31 := by omega
  obtain ⟨c, hc⟩ : ∃ c, c = 364 := ⟨_, rfl⟩
  obtain ⟨s, hs⟩ : ∃ s, s = 3648 := ⟨_, rfl⟩
  obtain ⟨S, T, h, t3, t2, e0⟩ := ev_fields (n := 365) (c := c) (s := s) (x := cellv L xs 0)
  have hC : CE (S 1) := fun p hp => by
    rw [t2] at hp
    exact absurd hp (Nat.not_lt_zero p)
  obtain ⟨S', T', h', t', kk⟩ := law_loop (n := 365) (c := c) (s := s) (xs := xs) hL 41 1 0 S T rfl h hC (by rw [t3]; decide +kernel) (by omega)
  obtain ⟨M, ke⟩ := law_end (n := 365) (c := c) (s := s) (L := L) (xs := xs) h' t' (by omega)
  have J := kk (365, c, s, M) (ke _ rfl)
  have R : JR (Ev mtab mcode 8) (jcL_law L xs) (0, lv_args 0 [.ref 0], []) (1, 0, 0, hf0) (.inl (some (.int 1))) (365, c, s, M) := by
    refine JR.new (p2 := 3) rfl rfl rfl rfl ?_
    refine JR.stk (len := 1) (sem := s_dup) (p2 := 4) rfl rfl rfl ?_
    refine JR.ini (p2 := 7) rfl rfl rfl (Nat.le_of_ble_eq_true rfl) rfl (ev_X6_init (bb := 0) (d := 2) (va_up_self _ _ _)) rfl ?_
    refine JR.ast (p2 := 8) rfl rfl rfl ?_
    refine JR.new (p2 := 11) rfl rfl rfl rfl ?_
    refine JR.stk (len := 1) (sem := s_dup) (p2 := 12) rfl rfl rfl ?_
    refine JR.ini (p2 := 15) rfl rfl rfl (Nat.le_of_ble_eq_true rfl) rfl (ev_X6_init (bb := 182) (d := 2) (va_up_self _ _ _)) rfl ?_
    refine JR.ast (p2 := 16) rfl rfl rfl ?_
    refine JR.mem lw_0 ?_
    have K : JV (Ev mtab mcode 8) (jcL_law L xs) (16, [(0, .ref 0), (1, .ref 1), (2, .ref 183)], []) (365, c, s, lw S0 S0) (.inl (some (.int 1))) (365, c, s, M) := by
      refine JV.ald (p2 := 17) rfl rfl rfl ?_
      refine JV.ald (p2 := 18) rfl rfl rfl ?_
      refine JV.ald (p2 := 19) rfl rfl rfl ?_
      refine JV.stk (len := 1) (sem := (s_push (.int 0))) (p2 := 20) rfl rfl rfl ?_
      refine JV.cell (p2 := 23) rfl (by decide) (Nat.le_of_ble_eq_true rfl) hL rfl ?_
      refine JV.insI (p2 := 26) rfl (Nat.le_of_ble_eq_true rfl) rfl rfl (Nat.le_of_ble_eq_true rfl) rfl (e0) rfl ?_
      refine JV.ist (p2 := 27) rfl rfl rfl ?_
      refine JV.stk (len := 1) (sem := (s_push (.int 1))) (p2 := 28) rfl rfl rfl ?_
      refine JV.ist (p2 := 30) rfl rfl rfl ?_
      exact J
    subst hc
    subst hs
    refine K _ (fun q hq => ?_)
    have hq' : q = (0, Value.ref 0) ∨ q = (1, Value.ref 1) ∨ q = (2, Value.ref 183) := by simpa using hq
    rcases hq' with rfl | rfl | rfl <;> rfl
  obtain ⟨k, hk⟩ := R
  refine ⟨k, _, ?_, ?_, hk⟩
  · show c ≤ 600104
    omega
  · show s ≤ 7301314
    omega
end LAW
