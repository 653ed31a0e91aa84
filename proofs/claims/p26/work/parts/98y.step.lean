/-! the fields are made -/
section FLD
variable {n c s B B' : Nat} {S T S' T' : Sys} {x v a b p1 p2 p3 p4 : Int32} {o : JO} {hf : JH} {q k t r N K P : Nat} {m : Mem} {sp st sp' st' : Nat → Int32}
theorem s_irem_of {x y : Int32} {r : List Value} (h : ¬ y = 0) : s_irem (.int y :: .int x :: r) = some (.int (x - x / y * y) :: r) := if_neg h
theorem FI.cg (h : FI B S sp st) (e1 : ∀ j, j < 4 → sp j = sp' j) (e2 : ∀ t, t < 3 → st t = st' t) : FI B S sp' st' := by
  obtain ⟨i, g0, g4, g1, g2⟩ := h
  exact ⟨i, g0, g4, fun j hj => by rw [← e1 j hj]; exact g1 j hj, fun t ht => by rw [← e2 t ht]; exact g2 t ht⟩
def spS (t k : Nat) : Nat → Int32 := fun j => if j < k then nI (1 + (j * 3 + t) % 4) else 2
def spT (t k : Nat) : Nat → Int32 := fun j => if 3 - j < k then nI (1 + ((3 - j) * 3 + t) % 4) else 2
def stS (t k : Nat) : Nat → Int32 := fun j => if j < k then nI (1 + (j + t) % 3) else 3
def stT (t k : Nat) : Nat → Int32 := fun j => if 2 - j < k then nI (1 + ((2 - j) + t) % 3) else 3
theorem spS_u : upd (spS t k) k (nI (1 + (k * 3 + t) % 4)) = spS t (k + 1) := by
  funext j
  unfold upd spS
  by_cases e : j = k
  · subst e
    rw [if_pos rfl, if_pos (Nat.lt_succ_self j)]
  · rw [if_neg e]
    by_cases l : j < k
    · rw [if_pos l, if_pos (by omega)]
    · rw [if_neg l, if_neg (by omega)]
theorem stS_u : upd (stS t k) k (nI (1 + (k + t) % 3)) = stS t (k + 1) := by
  funext j
  unfold upd stS
  by_cases e : j = k
  · subst e
    rw [if_pos rfl, if_pos (Nat.lt_succ_self j)]
  · rw [if_neg e]
    by_cases l : j < k
    · rw [if_pos l, if_pos (by omega)]
    · rw [if_neg l, if_neg (by omega)]
theorem spT_u (hk : k < 4) : ∀ j, j < 4 → upd (spT t k) (3 - k) (nI (1 + (k * 3 + t) % 4)) j = spT t (k + 1) j := fun j hj => by
  unfold upd spT
  by_cases e : j = 3 - k
  · subst e
    rw [if_pos rfl, if_pos (by omega), show 3 - (3 - k) = k by omega]
  · rw [if_neg e]
    by_cases l : 3 - j < k
    · rw [if_pos l, if_pos (by omega)]
    · rw [if_neg l, if_neg (by omega)]
theorem stT_u (hk : k < 3) : ∀ j, j < 3 → upd (stT t k) (2 - k) (nI (1 + (k + t) % 3)) j = stT t (k + 1) j := fun j hj => by
  unfold upd stT
  by_cases e : j = 2 - k
  · subst e
    rw [if_pos rfl, if_pos (by omega), show 2 - (2 - k) = k by omega]
  · rw [if_neg e]
    by_cases l : 2 - j < k
    · rw [if_pos l, if_pos (by omega)]
    · rw [if_neg l, if_neg (by omega)]
set_option maxRecDepth 100000 in
theorem fd_1 (ht : t < 4) : ∀ (e k : Nat) (S T : Sys), k + e = 4 → FI 0 S (spS t k) (fun _ => 3) → FI 0 T (spT t k) (fun _ => 3) → ∃ S' T', FI 0 S' (spS t 4) (fun _ => 3) ∧ FI 0 T' (spT t 4) (fun _ => 3) ∧ ∀ (o : JO) (hf : JH), JV (Ev mtab mcode 7) jcL_fields (95, [(0, .ref 1), (1, .ref 183), (2, .int x), (3, .int 1), (4, .int (nI t)), (5, .int (nI 4))], []) (n, c, s, lw S' T') o hf → JV (Ev mtab mcode 7) jcL_fields (34, [(0, .ref 1), (1, .ref 183), (2, .int x), (3, .int 1), (4, .int (nI t)), (5, .int (nI k))], []) (n, c, s, lw S T) o hf
  | 0, k, S, T, hk, hS, hT => by
    have hk : k = 4 := by omega
    subst hk
    refine ⟨S, T, hS, hT, fun o hf kk => ?_⟩
    refine JV.ild (p2 := 36) rfl rfl rfl ?_
    refine JV.stk (len := 1) (sem := (s_push (.int 4))) (p2 := 37) rfl rfl rfl ?_
    refine JV.brT rfl rfl (by exact nI_le (a := 4) (b := 4) (by omega) (by omega)) ?_
    exact kk
  | e + 1, k, S, T, hk, hS, hT => by
    have o1 := fi_span (j := k) (v := nI (1 + (k * 3 + t) % 4)) hS (by omega) (in_lo (M := 4) (by omega) (by omega) rfl (by decide))
    have o2 := fi_span (j := 3 - k) (v := nI (1 + (k * 3 + t) % 4)) hT (by omega) (in_lo (M := 4) (by omega) (by omega) rfl (by decide))
    obtain ⟨S', T', hS', hT', kk⟩ := fd_1 ht e (k + 1) _ _ (by omega) (spS_u ▸ o1.2) (o2.2.cg (spT_u (by omega)) (fun _ _ => rfl))
    refine ⟨S', T', hS', hT', fun o hf kn => ?_⟩
    refine JV.ild (p2 := 36) rfl rfl rfl ?_
    refine JV.stk (len := 1) (sem := (s_push (.int 4))) (p2 := 37) rfl rfl rfl ?_
    refine JV.brF (p2 := 40) rfl rfl rfl (by exact nI_ge (a := k) (b := 4) (by omega) (by omega)) ?_
    refine JV.stk (len := 1) (sem := (s_push (.int 1))) (p2 := 41) rfl rfl rfl ?_
    refine JV.ild (p2 := 43) rfl rfl rfl ?_
    refine JV.stk (len := 1) (sem := (s_push (.int 3))) (p2 := 44) rfl rfl rfl ?_
    refine JV.stk (len := 1) (sem := s_imul) (p2 := 45) rfl rfl rfl ?_
    refine JV.ild (p2 := 47) rfl rfl rfl ?_
    refine JV.stk (len := 1) (sem := s_iadd) (p2 := 48) rfl rfl rfl ?_
    refine JV.stk (len := 1) (sem := (s_push (.int 4))) (p2 := 49) rfl rfl rfl ?_
    refine JV.stk (len := 1) (sem := s_irem) (p2 := 50) rfl (s_irem_of (by decide)) rfl ?_
    refine JV.stk (len := 1) (sem := s_iadd) (p2 := 51) rfl rfl rfl ?_
    refine JV.top (span_eq (by omega) ht) ?_
    refine JV.ist (p2 := 53) rfl rfl rfl ?_
    refine JV.ild (p2 := 54) rfl rfl rfl ?_
    refine JV.brF (p2 := 57) rfl rfl rfl (by decide) ?_
    refine JV.ald (p2 := 58) rfl rfl rfl ?_
    refine JV.ild (p2 := 60) rfl rfl rfl ?_
    refine JV.ild (p2 := 62) rfl rfl rfl ?_
    refine JV.invI (p2 := 65) rfl rfl rfl lw_o (Nat.le_of_ble_eq_true rfl) rfl (o_setSpan (by omega) hS.sk (by decide) o1.1) ?_
    refine JV.stk (len := 1) (sem := (s_push (.int 2))) (p2 := 66) rfl rfl rfl ?_
    refine JV.brF (p2 := 69) rfl rfl rfl (fun z => z (if_neg (Nat.lt_irrefl k))) ?_
    refine JV.ald (p2 := 70) rfl rfl rfl ?_
    refine JV.stk (len := 1) (sem := (s_push (.int 3))) (p2 := 71) rfl rfl rfl ?_
    refine JV.ild (p2 := 73) rfl rfl rfl ?_
    refine JV.stk (len := 1) (sem := s_isub) (p2 := 74) rfl rfl rfl ?_
    refine JV.top (sub_n (a := 3) rfl (by omega)) ?_
    refine JV.ild (p2 := 76) rfl rfl rfl ?_
    refine JV.invI (p2 := 79) rfl rfl rfl lw_p (Nat.le_of_ble_eq_true rfl) rfl (p_setSpan (by omega) hT.sk (by decide) o2.1) ?_
    refine JV.stk (len := 1) (sem := (s_push (.int 2))) (p2 := 80) rfl rfl rfl ?_
    refine JV.brF (p2 := 83) rfl rfl rfl (fun z => z (if_neg (by omega))) ?_
    refine JV.stk (len := 1) (sem := (s_push (.int 1))) (p2 := 84) rfl rfl rfl ?_
    refine JV.goto rfl ?_
    refine JV.ist (p2 := 89) rfl rfl rfl ?_
    refine JV.iinc (p2 := 92) rfl rfl (nI_1 k) rfl rfl ?_
    refine JV.goto rfl ?_
    refine JV.keep [0, 1, 2, 3, 4, 5] rfl ?_
    exact kk o hf kn
set_option maxRecDepth 100000 in
theorem fd_2 (ht : t < 4) : ∀ (e k : Nat) (S T : Sys), k + e = 3 → FI 0 S (spS t 4) (stS t k) → FI 0 T (spT t 4) (stT t k) → ∃ S' T', FI 0 S' (spS t 4) (stS t 3) ∧ FI 0 T' (spT t 4) (stT t 3) ∧ ∀ (o : JO) (hf : JH), JV (Ev mtab mcode 7) jcL_fields (157, [(0, .ref 1), (1, .ref 183), (2, .int x), (3, .int 1), (4, .int (nI t)), (5, .int (nI 3))], []) (n, c, s, lw S' T') o hf → JV (Ev mtab mcode 7) jcL_fields (98, [(0, .ref 1), (1, .ref 183), (2, .int x), (3, .int 1), (4, .int (nI t)), (5, .int (nI k))], []) (n, c, s, lw S T) o hf
  | 0, k, S, T, hk, hS, hT => by
    have hk : k = 3 := by omega
    subst hk
    refine ⟨S, T, hS, hT, fun o hf kk => ?_⟩
    refine JV.ild (p2 := 100) rfl rfl rfl ?_
    refine JV.stk (len := 1) (sem := (s_push (.int 3))) (p2 := 101) rfl rfl rfl ?_
    refine JV.brT rfl rfl (by exact nI_le (a := 3) (b := 3) (by omega) (by omega)) ?_
    exact kk
  | e + 1, k, S, T, hk, hS, hT => by
    have o1 := fi_str (j := k) (v := nI (1 + (k + t) % 3)) hS (by omega) (in_lo (M := 3) (by omega) (by omega) rfl (by decide))
    have o2 := fi_str (j := 2 - k) (v := nI (1 + (k + t) % 3)) hT (by omega) (in_lo (M := 3) (by omega) (by omega) rfl (by decide))
    obtain ⟨S', T', hS', hT', kk⟩ := fd_2 ht e (k + 1) _ _ (by omega) (stS_u ▸ o1.2) (o2.2.cg (fun _ _ => rfl) (stT_u (by omega)))
    refine ⟨S', T', hS', hT', fun o hf kn => ?_⟩
    refine JV.ild (p2 := 100) rfl rfl rfl ?_
    refine JV.stk (len := 1) (sem := (s_push (.int 3))) (p2 := 101) rfl rfl rfl ?_
    refine JV.brF (p2 := 104) rfl rfl rfl (by exact nI_ge (a := k) (b := 3) (by omega) (by omega)) ?_
    refine JV.stk (len := 1) (sem := (s_push (.int 1))) (p2 := 105) rfl rfl rfl ?_
    refine JV.ild (p2 := 107) rfl rfl rfl ?_
    refine JV.ild (p2 := 109) rfl rfl rfl ?_
    refine JV.stk (len := 1) (sem := s_iadd) (p2 := 110) rfl rfl rfl ?_
    refine JV.stk (len := 1) (sem := (s_push (.int 3))) (p2 := 111) rfl rfl rfl ?_
    refine JV.stk (len := 1) (sem := s_irem) (p2 := 112) rfl (s_irem_of (by decide)) rfl ?_
    refine JV.stk (len := 1) (sem := s_iadd) (p2 := 113) rfl rfl rfl ?_
    refine JV.top (str_eq (by omega) ht) ?_
    refine JV.ist (p2 := 115) rfl rfl rfl ?_
    refine JV.ild (p2 := 116) rfl rfl rfl ?_
    refine JV.brF (p2 := 119) rfl rfl rfl (by decide) ?_
    refine JV.ald (p2 := 120) rfl rfl rfl ?_
    refine JV.ild (p2 := 122) rfl rfl rfl ?_
    refine JV.ild (p2 := 124) rfl rfl rfl ?_
    refine JV.invI (p2 := 127) rfl rfl rfl lw_o (Nat.le_of_ble_eq_true rfl) rfl (o_setStrength (by omega) hS.sk (by decide) o1.1) ?_
    refine JV.stk (len := 1) (sem := (s_push (.int 3))) (p2 := 128) rfl rfl rfl ?_
    refine JV.brF (p2 := 131) rfl rfl rfl (fun z => z (if_neg (Nat.lt_irrefl k))) ?_
    refine JV.ald (p2 := 132) rfl rfl rfl ?_
    refine JV.stk (len := 1) (sem := (s_push (.int 2))) (p2 := 133) rfl rfl rfl ?_
    refine JV.ild (p2 := 135) rfl rfl rfl ?_
    refine JV.stk (len := 1) (sem := s_isub) (p2 := 136) rfl rfl rfl ?_
    refine JV.top (sub_n (a := 2) rfl (by omega)) ?_
    refine JV.ild (p2 := 138) rfl rfl rfl ?_
    refine JV.invI (p2 := 141) rfl rfl rfl lw_p (Nat.le_of_ble_eq_true rfl) rfl (p_setStrength (by omega) hT.sk (by decide) o2.1) ?_
    refine JV.stk (len := 1) (sem := (s_push (.int 3))) (p2 := 142) rfl rfl rfl ?_
    refine JV.brF (p2 := 145) rfl rfl rfl (fun z => z (if_neg (by omega))) ?_
    refine JV.stk (len := 1) (sem := (s_push (.int 1))) (p2 := 146) rfl rfl rfl ?_
    refine JV.goto rfl ?_
    refine JV.ist (p2 := 151) rfl rfl rfl ?_
    refine JV.iinc (p2 := 154) rfl rfl (nI_1 k) rfl rfl ?_
    refine JV.goto rfl ?_
    refine JV.keep [0, 1, 2, 3, 4, 5] rfl ?_
    exact kk o hf kn
set_option maxRecDepth 100000 in
theorem ev_fields : ∃ S T, LI 0 S T ∧ S 1 0 0 3 = 0 ∧ S 1 0 0 2 = 0 ∧ Ev mtab mcode 8 158 [.ref 1, .ref 183, .int x] (n, c, s, lw S0 S0) (.inl (some (.int 1))) (n, c, s, lw S T) := by
  obtain ⟨b0, b1⟩ := fi_begin
  have k0 : SK 0 S0 := inv_0.1
  obtain ⟨t, ht, et⟩ := up_ex (N := 4) (y := 4) x rfl (by decide) (by decide)
  obtain ⟨S, T, hS, hT, kk⟩ := fd_1 (n := n) (c := c) (s := s) (x := x) ht 4 0 _ _ rfl (b1.cg (sp' := spS t 0) (st' := fun _ => 3) (fun j _ => (if_neg (Nat.not_lt_zero j)).symm) (fun _ _ => rfl)) (b1.cg (sp' := spT t 0) (st' := fun _ => 3) (fun j _ => (if_neg (Nat.not_lt_zero _)).symm) (fun _ _ => rfl))
  obtain ⟨S', T', hS', hT', kk'⟩ := fd_2 (n := n) (c := c) (s := s) (x := x) ht 3 0 S T rfl (hS.cg (fun _ _ => rfl) (st' := stS t 0) (fun j _ => (if_neg (Nat.not_lt_zero j)).symm)) (hT.cg (fun _ _ => rfl) (st' := stT t 0) (fun j _ => (if_neg (Nat.not_lt_zero _)).symm))
  have na := hS'.2.1.2.1
  obtain ⟨L, L3⟩ := LI.of hS' hT' (fun j hj => by unfold spT spS; rw [if_pos (by omega), if_pos hj, show 3 - (3 - j) = j by omega]) (fun j hj => by unfold stT stS; rw [if_pos (by omega), if_pos hj, show 2 - (2 - j) = j by omega]) (fun i j hi hj e => by
    unfold spS at e
    rw [if_pos hi, if_pos hj] at e
    have := nI_inj (by omega) (by omega) e
    omega) (fun i j hi hj e => by
    unfold stS at e
    rw [if_pos hi, if_pos hj] at e
    have := nI_inj (by omega) (by omega) e
    omega)
  refine ⟨S', T', L, L3, na, ?_⟩
  refine jv_mk (m := mL_fields) (cd := jcL_fields) rfl rfl (Nat.le_of_ble_eq_true rfl) (Or.inr rfl) ?_
  refine JV.ald (p2 := 1) rfl rfl rfl ?_
  refine JV.stk (len := 1) (sem := (s_push (.int 4))) (p2 := 2) rfl rfl rfl ?_
  refine JV.stk (len := 1) (sem := (s_push (.int 3))) (p2 := 3) rfl rfl rfl ?_
  refine JV.invI (p2 := 6) rfl rfl rfl lw_o (Nat.le_of_ble_eq_true rfl) rfl (o_begin (by omega) k0 (by decide) b0) ?_
  refine JV.brF (p2 := 9) rfl rfl rfl (fun z => z rfl) ?_
  refine JV.ald (p2 := 10) rfl rfl rfl ?_
  refine JV.stk (len := 1) (sem := (s_push (.int 4))) (p2 := 11) rfl rfl rfl ?_
  refine JV.stk (len := 1) (sem := (s_push (.int 3))) (p2 := 12) rfl rfl rfl ?_
  refine JV.invI (p2 := 15) rfl rfl rfl lw_p (Nat.le_of_ble_eq_true rfl) rfl (p_begin (by omega) k0 (by decide) b0) ?_
  refine JV.brF (p2 := 18) rfl rfl rfl (fun z => z rfl) ?_
  refine JV.stk (len := 1) (sem := (s_push (.int 1))) (p2 := 19) rfl rfl rfl ?_
  refine JV.goto rfl ?_
  refine JV.ist (p2 := 24) rfl rfl rfl ?_
  refine JV.ild (p2 := 25) rfl rfl rfl ?_
  refine JV.stk (len := 1) (sem := (s_push (.int 4))) (p2 := 26) rfl rfl rfl ?_
  refine JV.insI (p2 := 29) rfl (Nat.le_of_ble_eq_true rfl) rfl rfl (Nat.le_of_ble_eq_true rfl) rfl (ev_up (by omega) (by decide)) rfl ?_
  refine JV.top (et) ?_
  refine JV.ist (p2 := 31) rfl rfl rfl ?_
  refine JV.stk (len := 1) (sem := (s_push (.int 0))) (p2 := 32) rfl rfl rfl ?_
  refine JV.ist (p2 := 34) rfl rfl rfl ?_
  refine kk _ _ ?_
  refine JV.stk (len := 1) (sem := (s_push (.int 0))) (p2 := 96) rfl rfl rfl ?_
  refine JV.ist (p2 := 98) rfl rfl rfl ?_
  refine kk' _ _ ?_
  refine JV.ild (p2 := 158) rfl rfl rfl ?_
  exact JV.ret rfl (fun _ => rfl) rfl rfl
end FLD
/-! a step -/
section STP
variable {n c s B B' : Nat} {S T S' T' : Sys} {x v a b p1 p2 p3 p4 : Int32} {o : JO} {hf : JH} {q k t r N K P : Nat} {m : Mem}
theorem cur_1 (h : LI B S T) (ha : ¬ x_X6_isOutside a 0 1440 = true) (hb : ¬ x_X6_isOutside b 0 1440 = true) : (x_X6_setCurfew S a b).1 1 = up3 (up3 (S 1) 0 0 4 a) 0 0 5 b := by
  rw [x_X6_setCurfew_eq]
  unfold y_X6_setCurfew
  rw [if_neg ha, if_neg hb]
  dsimp only
  rw [us_same, us_same, h.sv.1]
theorem exp_1 (h : LI B S T) (h1 : x_X6_isKind p1 = true) (h2 : ¬ x_X6_isOutside p2 0 1999 = true) (h3 : p2 < p3) (h4 : ¬ 1999 < p3) (h5 : ¬ x_X6_isOutside p4 0 400 = true) (h12 : S 1 0 0 2 < 12) : (x_X6_expect S p1 p2 p3 p4).1 1 = x_X1_add (S 1) p1 p2 p3 p4 := by
  rw [x_X6_expect_eq]
  unfold y_X6_expect
  rw [if_pos h1, if_neg h2, if_pos h3, if_neg h4, if_neg h5, if_pos h12]
  dsimp only
  rw [us_same, h.sv.1]
theorem lea_1 (h : LI B S T) (hq : q < ix (S 1 0 0 2)) (h1 : S 1 3 q 2 < v) (h2 : ¬ 1999 < v) (h4 : ¬ S 1 3 q 5 = 4) (h5 : ¬ S 1 3 q 5 = 5) : (x_X6_setLeaves S (nI q) v).1 1 = up3 (S 1) 3 q 3 v := by
  have ba := h.i1.na.2
  rw [x_X6_setLeaves_eq]
  unfold y_X6_setLeaves
  rw [ix_nI (show q < 2 ^ 31 by omega), if_pos (has_A' h.i1 hq), if_pos h1, if_neg h2, if_neg h4, if_neg h5]
  dsimp only
  rw [us_same, h.sv.1]
theorem CE.cg {m' : Mem} (h : CE m) (e2 : m' 0 0 2 = m 0 0 2) (e : ∀ p, m' 3 p 2 = m 3 p 2) : CE m' := fun p hp => by
  rw [e2] at hp
  rw [e]
  exact h p hp
theorem CE.add (h : CE m) (hI : IN m) (h12 : m 0 0 2 < 12) (hn : ix (m 0 0 2) < 12) (hv : VN 119 p2) : CE (x_X1_add m p1 p2 p3 p4) := by
  obtain ⟨N, hN⟩ : ∃ N, ix (m 0 0 2) = N := ⟨_, rfl⟩
  obtain ⟨a1, a2, a3, a4, ⟨-, -, b2, -⟩, -⟩ := adc (p1 := p1) (p2 := p2) (p3 := p3) (p4 := p4) hN h12
  have e2 : ix (x_X1_add m p1 p2 p3 p4 0 0 2) = N + 1 := by
    rw [a3, hI.na.1, nI_1, ix_nI (by omega), hN]
  intro p hp
  rw [e2] at hp
  by_cases e : p = N
  · subst e
    rw [b2]
    exact hv
  · rw [a4 p e]
    exact h p (by omega)
theorem CE.mk (h : CE m) (r : RX B m) (hB : B + 39 * k < 2 ^ 31) (ht : ix (m 0 0 3) + k ≤ 13000) : CE (MK1 k m) := h.cg (mk_na r hB ht 2 (by decide)) (fun _ => cm_mk k)
theorem VN.of (h : r ≤ K) (hK : K < 2 ^ 31) : VN K (nI r) := by
  unfold VN
  rw [ix_nI (by omega)]
  exact ⟨rfl, h⟩
set_option maxRecDepth 100000 in
theorem ev_step (h : LI B S T) (hC : CE (S 1)) (hB : B + 300000 < 2147483648) (hT : ix (S 1 0 0 3) ≤ 5000) : ∃ S' T', LI (B + 20000) S' T' ∧ CE (S' 1) ∧ ix (S' 1 0 0 3) ≤ ix (S 1 0 0 3) + 20 ∧ Ev mtab mcode 8 159 [.ref 1, .ref 183, .int x] (n, c, s, lw S T) (.inl (some (.int 1))) (n, c, s, lw S' T') := by
  have bd := h.bd
  have nb := h.i1.na.2
  have nm := h.i1.na.1
  have same : ∀ (P : Prop), P → LI (B + 20000) S T ∧ CE (S 1) ∧ ix (S 1 0 0 3) ≤ ix (S 1 0 0 3) + 20 ∧ P := fun P p => ⟨h.mono (by omega) (by omega), hC, by omega, p⟩
  obtain ⟨r, hr, er⟩ := up_ex (N := 10) (y := 10) x rfl (by decide) (by decide)
  rcases (show r = 0 ∨ (r = 1 ∨ r = 2 ∨ r = 3) ∨ r = 4 ∨ 5 ≤ r by omega) with g | g | g | g
  · -- the curfew
    subst g
    obtain ⟨ra, hra, era⟩ := up_ex (N := 80) (y := 80) (x >>> (4 &&& 31)) rfl (by decide) (by decide)
    obtain ⟨rb, hrb, erb⟩ := up_ex (N := 120) (y := 120) ((x >>> (4 &&& 31)) >>> (7 &&& 31)) rfl (by decide) (by decide)
    have oa := out_k (v := nI ra) (k := ra) (c := 1440) (M := 1440) rfl rfl (by omega) (by decide)
    have ob := out_k (v := nI rb) (k := rb) (c := 1440) (M := 1440) rfl rfl (by omega) (by decide)
    obtain ⟨v, c1, c2, hL, h3⟩ := h.cur oa ob
    refine ⟨_, _, hL.mono (by omega) (by omega), ?_, by rw [h3]; omega, ?_⟩
    · rw [cur_1 h oa ob]
      exact hC.cg (by rw [up3_ne (by omega), up3_ne (by omega)]) (fun p => by rw [up3_ne (by omega), up3_ne (by omega)])
    · refine jv_mk (m := mL_isStep) (cd := jcL_isStep) rfl rfl (Nat.le_of_ble_eq_true rfl) (Or.inr rfl) ?_
      refine JV.ild (p2 := 1) rfl rfl rfl ?_
      refine JV.stk (len := 1) (sem := (s_push (.int 4))) (p2 := 2) rfl rfl rfl ?_
      refine JV.stk (len := 1) (sem := s_ishr) (p2 := 3) rfl rfl rfl ?_
      refine JV.ist (p2 := 4) rfl rfl rfl ?_
      refine JV.ild (p2 := 5) rfl rfl rfl ?_
      refine JV.stk (len := 2) (sem := (s_push (.int 10))) (p2 := 7) rfl rfl rfl ?_
      refine JV.insI (p2 := 10) rfl (Nat.le_of_ble_eq_true rfl) rfl rfl (Nat.le_of_ble_eq_true rfl) rfl (ev_up (by omega) (by decide)) rfl ?_
      refine JV.top (er) ?_
      refine JV.sw (t := 44) rfl ((sw_t (by omega)).trans (rfl)) ?_
      refine JV.ald (p2 := 45) rfl rfl rfl ?_
      refine JV.ild (p2 := 46) rfl rfl rfl ?_
      refine JV.stk (len := 2) (sem := (s_push (.int 80))) (p2 := 48) rfl rfl rfl ?_
      refine JV.insI (p2 := 51) rfl (Nat.le_of_ble_eq_true rfl) rfl rfl (Nat.le_of_ble_eq_true rfl) rfl (ev_up (by omega) (by decide)) rfl ?_
      refine JV.top (era) ?_
      refine JV.ild (p2 := 52) rfl rfl rfl ?_
      refine JV.stk (len := 2) (sem := (s_push (.int 7))) (p2 := 54) rfl rfl rfl ?_
      refine JV.stk (len := 1) (sem := s_ishr) (p2 := 55) rfl rfl rfl ?_
      refine JV.stk (len := 2) (sem := (s_push (.int 120))) (p2 := 57) rfl rfl rfl ?_
      refine JV.insI (p2 := 60) rfl (Nat.le_of_ble_eq_true rfl) rfl rfl (Nat.le_of_ble_eq_true rfl) rfl (ev_up (by omega) (by decide)) rfl ?_
      refine JV.top (erb) ?_
      refine JV.invI (p2 := 63) rfl rfl rfl lw_o (Nat.le_of_ble_eq_true rfl) rfl (o_setCurfew (by omega) h.k1 bd c1) ?_
      refine JV.ald (p2 := 64) rfl rfl rfl ?_
      refine JV.ild (p2 := 65) rfl rfl rfl ?_
      refine JV.stk (len := 2) (sem := (s_push (.int 80))) (p2 := 67) rfl rfl rfl ?_
      refine JV.insI (p2 := 70) rfl (Nat.le_of_ble_eq_true rfl) rfl rfl (Nat.le_of_ble_eq_true rfl) rfl (ev_up (by omega) (by decide)) rfl ?_
      refine JV.top (era) ?_
      refine JV.ild (p2 := 71) rfl rfl rfl ?_
      refine JV.stk (len := 2) (sem := (s_push (.int 7))) (p2 := 73) rfl rfl rfl ?_
      refine JV.stk (len := 1) (sem := s_ishr) (p2 := 74) rfl rfl rfl ?_
      refine JV.stk (len := 2) (sem := (s_push (.int 120))) (p2 := 76) rfl rfl rfl ?_
      refine JV.insI (p2 := 79) rfl (Nat.le_of_ble_eq_true rfl) rfl rfl (Nat.le_of_ble_eq_true rfl) rfl (ev_up (by omega) (by decide)) rfl ?_
      refine JV.top (erb) ?_
      refine JV.invI (p2 := 82) rfl rfl rfl lw_p (Nat.le_of_ble_eq_true rfl) rfl (p_setCurfew (by omega) h.k2 bd c2) ?_
      refine JV.brF (p2 := 85) rfl rfl rfl (fun z => z rfl) ?_
      refine JV.stk (len := 1) (sem := (s_push (.int 1))) (p2 := 86) rfl rfl rfl ?_
      refine JV.goto rfl ?_
      exact JV.ret rfl (fun _ => rfl) rfl rfl
  · -- an aircraft is told
    obtain ⟨rc, hrc, erc⟩ := up_ex (N := 120) (y := 120) ((x >>> (4 &&& 31)) >>> (4 &&& 31)) rfl (by decide) (by decide)
    obtain ⟨rk, hrk, erk⟩ := up_ex (N := 4) (y := 4) (x >>> (4 &&& 31)) rfl (by decide) (by decide)
    obtain ⟨rw, hrw, erw⟩ := up_ex (N := 3) (y := 3) ((x >>> (4 &&& 31)) >>> (2 &&& 31)) rfl (by decide) (by decide)
    obtain ⟨rl, hrl, erl⟩ := up_ex (N := 150) (y := 150) ((x >>> (4 &&& 31)) >>> (11 &&& 31)) rfl (by decide) (by decide)
    obtain ⟨rp, hrp, erp⟩ := up_ex (N := 401) (y := 401) ((x >>> (4 &&& 31)) >>> (8 &&& 31)) rfl (by decide) (by decide)
    have e3 : nI rc + 1 + nI rl = nI (rc + 1 + rl) := by rw [nI_1, nI_add]
    by_cases g12 : S 1 0 0 2 = 12
    · refine ⟨S, T, same _ ?_⟩
      refine jv_mk (m := mL_isStep) (cd := jcL_isStep) rfl rfl (Nat.le_of_ble_eq_true rfl) (Or.inr rfl) ?_
      refine JV.ild (p2 := 1) rfl rfl rfl ?_
      refine JV.stk (len := 1) (sem := (s_push (.int 4))) (p2 := 2) rfl rfl rfl ?_
      refine JV.stk (len := 1) (sem := s_ishr) (p2 := 3) rfl rfl rfl ?_
      refine JV.ist (p2 := 4) rfl rfl rfl ?_
      refine JV.ild (p2 := 5) rfl rfl rfl ?_
      refine JV.stk (len := 2) (sem := (s_push (.int 10))) (p2 := 7) rfl rfl rfl ?_
      refine JV.insI (p2 := 10) rfl (Nat.le_of_ble_eq_true rfl) rfl rfl (Nat.le_of_ble_eq_true rfl) rfl (ev_up (by omega) (by decide)) rfl ?_
      refine JV.top (er) ?_
      refine JV.sw (t := 91) rfl ((sw_t (by omega)).trans (by rcases g with e | e | e <;> rw [e] <;> rfl)) ?_
      refine JV.ild (p2 := 92) rfl rfl rfl ?_
      refine JV.stk (len := 1) (sem := (s_push (.int 4))) (p2 := 93) rfl rfl rfl ?_
      refine JV.stk (len := 1) (sem := s_ishr) (p2 := 94) rfl rfl rfl ?_
      refine JV.stk (len := 2) (sem := (s_push (.int 120))) (p2 := 96) rfl rfl rfl ?_
      refine JV.insI (p2 := 99) rfl (Nat.le_of_ble_eq_true rfl) rfl rfl (Nat.le_of_ble_eq_true rfl) rfl (ev_up (by omega) (by decide)) rfl ?_
      refine JV.top (erc) ?_
      refine JV.ist (p2 := 101) rfl rfl rfl ?_
      refine JV.stk (len := 2) (sem := (s_push (.int 11))) (p2 := 103) rfl rfl rfl ?_
      refine JV.stk (len := 2) (sem := (s_push (.int 10))) (p2 := 105) rfl rfl rfl ?_
      refine JV.ild (p2 := 106) rfl rfl rfl ?_
      refine JV.stk (len := 1) (sem := (s_push (.int 4))) (p2 := 107) rfl rfl rfl ?_
      refine JV.insI (p2 := 110) rfl (Nat.le_of_ble_eq_true rfl) rfl rfl (Nat.le_of_ble_eq_true rfl) rfl (ev_up (by omega) (by decide)) rfl ?_
      refine JV.top (erk) ?_
      refine JV.stk (len := 1) (sem := s_imul) (p2 := 111) rfl rfl rfl ?_
      refine JV.stk (len := 1) (sem := s_iadd) (p2 := 112) rfl rfl rfl ?_
      refine JV.ild (p2 := 113) rfl rfl rfl ?_
      refine JV.stk (len := 1) (sem := (s_push (.int 2))) (p2 := 114) rfl rfl rfl ?_
      refine JV.stk (len := 1) (sem := s_ishr) (p2 := 115) rfl rfl rfl ?_
      refine JV.stk (len := 1) (sem := (s_push (.int 3))) (p2 := 116) rfl rfl rfl ?_
      refine JV.insI (p2 := 119) rfl (Nat.le_of_ble_eq_true rfl) rfl rfl (Nat.le_of_ble_eq_true rfl) rfl (ev_up (by omega) (by decide)) rfl ?_
      refine JV.top (erw) ?_
      refine JV.stk (len := 1) (sem := s_iadd) (p2 := 120) rfl rfl rfl ?_
      refine JV.ist (p2 := 122) rfl rfl rfl ?_
      refine JV.ild (p2 := 124) rfl rfl rfl ?_
      refine JV.stk (len := 1) (sem := (s_push (.int 1))) (p2 := 125) rfl rfl rfl ?_
      refine JV.stk (len := 1) (sem := s_iadd) (p2 := 126) rfl rfl rfl ?_
      refine JV.ild (p2 := 127) rfl rfl rfl ?_
      refine JV.stk (len := 2) (sem := (s_push (.int 11))) (p2 := 129) rfl rfl rfl ?_
      refine JV.stk (len := 1) (sem := s_ishr) (p2 := 130) rfl rfl rfl ?_
      refine JV.stk (len := 3) (sem := (s_push (.int 150))) (p2 := 133) rfl rfl rfl ?_
      refine JV.insI (p2 := 136) rfl (Nat.le_of_ble_eq_true rfl) rfl rfl (Nat.le_of_ble_eq_true rfl) rfl (ev_up (by omega) (by decide)) rfl ?_
      refine JV.top (erl) ?_
      refine JV.stk (len := 1) (sem := s_iadd) (p2 := 137) rfl rfl rfl ?_
      refine JV.top (e3) ?_
      refine JV.ist (p2 := 139) rfl rfl rfl ?_
      refine JV.ald (p2 := 140) rfl rfl rfl ?_
      refine JV.stk (len := 1) (sem := (s_push (.int 2))) (p2 := 141) rfl rfl rfl ?_
      refine JV.invI (p2 := 144) rfl rfl rfl lw_o (Nat.le_of_ble_eq_true rfl) rfl (o_value (by omega) h.k1 bd (vl_of (k := 2) (by decide) rfl)) ?_
      refine JV.top (an_2) ?_
      refine JV.stk (len := 2) (sem := (s_push (.int 12))) (p2 := 146) rfl rfl rfl ?_
      refine JV.brT rfl rfl (g12) ?_
      refine JV.stk (len := 1) (sem := (s_push (.int 1))) (p2 := 193) rfl rfl rfl ?_
      refine JV.goto rfl ?_
      exact JV.ret rfl (fun _ => rfl) rfl rfl
    · have hn : ix (S 1 0 0 2) < 12 := by
        have : ix (S 1 0 0 2) ≠ 12 := fun z => g12 (by rw [nm, z]; rfl)
        omega
      have h12 : S 1 0 0 2 < 12 := by
        rw [nm]
        exact nI_lt (a := ix (S 1 0 0 2)) (b := 12) hn (by decide)
      have q1 := kind_ok (N := rk) (K := rw) hrk hrw
      have q2 := out_k (v := nI rc) (k := rc) (c := 1999) (M := 1999) rfl rfl (by omega) (by decide)
      have q3 : nI rc < nI (rc + 1 + rl) := nI_lt (by omega) (by omega)
      have q4 : ¬ 1999 < nI (rc + 1 + rl) := nI_nlt (a := 1999) (by omega) (by decide)
      have q5 := out_k (v := nI rp) (k := rp) (c := 400) (M := 400) rfl rfl (by omega) (by decide)
      obtain ⟨v, c1, c2, hL, h3⟩ := h.exp q1 q2 q3 q4 q5 h12 hn
      refine ⟨_, _, hL.mono (by omega) (by omega), ?_, by rw [h3]; omega, ?_⟩
      · rw [exp_1 h q1 q2 q3 q4 q5 h12]
        exact hC.add h.i1 h12 hn (VN.of (by omega) (by decide))
      · refine jv_mk (m := mL_isStep) (cd := jcL_isStep) rfl rfl (Nat.le_of_ble_eq_true rfl) (Or.inr rfl) ?_
        refine JV.ild (p2 := 1) rfl rfl rfl ?_
        refine JV.stk (len := 1) (sem := (s_push (.int 4))) (p2 := 2) rfl rfl rfl ?_
        refine JV.stk (len := 1) (sem := s_ishr) (p2 := 3) rfl rfl rfl ?_
        refine JV.ist (p2 := 4) rfl rfl rfl ?_
        refine JV.ild (p2 := 5) rfl rfl rfl ?_
        refine JV.stk (len := 2) (sem := (s_push (.int 10))) (p2 := 7) rfl rfl rfl ?_
        refine JV.insI (p2 := 10) rfl (Nat.le_of_ble_eq_true rfl) rfl rfl (Nat.le_of_ble_eq_true rfl) rfl (ev_up (by omega) (by decide)) rfl ?_
        refine JV.top (er) ?_
        refine JV.sw (t := 91) rfl ((sw_t (by omega)).trans (by rcases g with e | e | e <;> rw [e] <;> rfl)) ?_
        refine JV.ild (p2 := 92) rfl rfl rfl ?_
        refine JV.stk (len := 1) (sem := (s_push (.int 4))) (p2 := 93) rfl rfl rfl ?_
        refine JV.stk (len := 1) (sem := s_ishr) (p2 := 94) rfl rfl rfl ?_
        refine JV.stk (len := 2) (sem := (s_push (.int 120))) (p2 := 96) rfl rfl rfl ?_
        refine JV.insI (p2 := 99) rfl (Nat.le_of_ble_eq_true rfl) rfl rfl (Nat.le_of_ble_eq_true rfl) rfl (ev_up (by omega) (by decide)) rfl ?_
        refine JV.top (erc) ?_
        refine JV.ist (p2 := 101) rfl rfl rfl ?_
        refine JV.stk (len := 2) (sem := (s_push (.int 11))) (p2 := 103) rfl rfl rfl ?_
        refine JV.stk (len := 2) (sem := (s_push (.int 10))) (p2 := 105) rfl rfl rfl ?_
        refine JV.ild (p2 := 106) rfl rfl rfl ?_
        refine JV.stk (len := 1) (sem := (s_push (.int 4))) (p2 := 107) rfl rfl rfl ?_
        refine JV.insI (p2 := 110) rfl (Nat.le_of_ble_eq_true rfl) rfl rfl (Nat.le_of_ble_eq_true rfl) rfl (ev_up (by omega) (by decide)) rfl ?_
        refine JV.top (erk) ?_
        refine JV.stk (len := 1) (sem := s_imul) (p2 := 111) rfl rfl rfl ?_
        refine JV.stk (len := 1) (sem := s_iadd) (p2 := 112) rfl rfl rfl ?_
        refine JV.ild (p2 := 113) rfl rfl rfl ?_
        refine JV.stk (len := 1) (sem := (s_push (.int 2))) (p2 := 114) rfl rfl rfl ?_
        refine JV.stk (len := 1) (sem := s_ishr) (p2 := 115) rfl rfl rfl ?_
        refine JV.stk (len := 1) (sem := (s_push (.int 3))) (p2 := 116) rfl rfl rfl ?_
        refine JV.insI (p2 := 119) rfl (Nat.le_of_ble_eq_true rfl) rfl rfl (Nat.le_of_ble_eq_true rfl) rfl (ev_up (by omega) (by decide)) rfl ?_
        refine JV.top (erw) ?_
        refine JV.stk (len := 1) (sem := s_iadd) (p2 := 120) rfl rfl rfl ?_
        refine JV.ist (p2 := 122) rfl rfl rfl ?_
        refine JV.ild (p2 := 124) rfl rfl rfl ?_
        refine JV.stk (len := 1) (sem := (s_push (.int 1))) (p2 := 125) rfl rfl rfl ?_
        refine JV.stk (len := 1) (sem := s_iadd) (p2 := 126) rfl rfl rfl ?_
        refine JV.ild (p2 := 127) rfl rfl rfl ?_
        refine JV.stk (len := 2) (sem := (s_push (.int 11))) (p2 := 129) rfl rfl rfl ?_
        refine JV.stk (len := 1) (sem := s_ishr) (p2 := 130) rfl rfl rfl ?_
        refine JV.stk (len := 3) (sem := (s_push (.int 150))) (p2 := 133) rfl rfl rfl ?_
        refine JV.insI (p2 := 136) rfl (Nat.le_of_ble_eq_true rfl) rfl rfl (Nat.le_of_ble_eq_true rfl) rfl (ev_up (by omega) (by decide)) rfl ?_
        refine JV.top (erl) ?_
        refine JV.stk (len := 1) (sem := s_iadd) (p2 := 137) rfl rfl rfl ?_
        refine JV.top (e3) ?_
        refine JV.ist (p2 := 139) rfl rfl rfl ?_
        refine JV.ald (p2 := 140) rfl rfl rfl ?_
        refine JV.stk (len := 1) (sem := (s_push (.int 2))) (p2 := 141) rfl rfl rfl ?_
        refine JV.invI (p2 := 144) rfl rfl rfl lw_o (Nat.le_of_ble_eq_true rfl) rfl (o_value (by omega) h.k1 bd (vl_of (k := 2) (by decide) rfl)) ?_
        refine JV.top (an_2) ?_
        refine JV.stk (len := 2) (sem := (s_push (.int 12))) (p2 := 146) rfl rfl rfl ?_
        refine JV.brF (p2 := 149) rfl rfl rfl (g12) ?_
        refine JV.ald (p2 := 150) rfl rfl rfl ?_
        refine JV.ild (p2 := 152) rfl rfl rfl ?_
        refine JV.ild (p2 := 154) rfl rfl rfl ?_
        refine JV.ild (p2 := 156) rfl rfl rfl ?_
        refine JV.ild (p2 := 157) rfl rfl rfl ?_
        refine JV.stk (len := 2) (sem := (s_push (.int 8))) (p2 := 159) rfl rfl rfl ?_
        refine JV.stk (len := 1) (sem := s_ishr) (p2 := 160) rfl rfl rfl ?_
        refine JV.stk (len := 3) (sem := (s_push (.int 401))) (p2 := 163) rfl rfl rfl ?_
        refine JV.insI (p2 := 166) rfl (Nat.le_of_ble_eq_true rfl) rfl rfl (Nat.le_of_ble_eq_true rfl) rfl (ev_up (by omega) (by decide)) rfl ?_
        refine JV.top (erp) ?_
        refine JV.invI (p2 := 169) rfl rfl rfl lw_o (Nat.le_of_ble_eq_true rfl) rfl (o_expect (by omega) h.k1 bd c1) ?_
        refine JV.ald (p2 := 170) rfl rfl rfl ?_
        refine JV.ild (p2 := 172) rfl rfl rfl ?_
        refine JV.ild (p2 := 174) rfl rfl rfl ?_
        refine JV.ild (p2 := 176) rfl rfl rfl ?_
        refine JV.ild (p2 := 177) rfl rfl rfl ?_
        refine JV.stk (len := 2) (sem := (s_push (.int 8))) (p2 := 179) rfl rfl rfl ?_
        refine JV.stk (len := 1) (sem := s_ishr) (p2 := 180) rfl rfl rfl ?_
        refine JV.stk (len := 3) (sem := (s_push (.int 401))) (p2 := 183) rfl rfl rfl ?_
        refine JV.insI (p2 := 186) rfl (Nat.le_of_ble_eq_true rfl) rfl rfl (Nat.le_of_ble_eq_true rfl) rfl (ev_up (by omega) (by decide)) rfl ?_
        refine JV.top (erp) ?_
        refine JV.invI (p2 := 189) rfl rfl rfl lw_p (Nat.le_of_ble_eq_true rfl) rfl (p_expect (by omega) h.k2 bd c2) ?_
        refine JV.brF (p2 := 192) rfl rfl rfl (fun z => z rfl) ?_
        refine JV.stk (len := 1) (sem := (s_push (.int 1))) (p2 := 193) rfl rfl rfl ?_
        refine JV.goto rfl ?_
        exact JV.ret rfl (fun _ => rfl) rfl rfl
  · -- a minute of leaving
    subst g
    by_cases g0 : S 1 0 0 2 = 0
    · refine ⟨S, T, same _ ?_⟩
      refine jv_mk (m := mL_isStep) (cd := jcL_isStep) rfl rfl (Nat.le_of_ble_eq_true rfl) (Or.inr rfl) ?_
      refine JV.ild (p2 := 1) rfl rfl rfl ?_
      refine JV.stk (len := 1) (sem := (s_push (.int 4))) (p2 := 2) rfl rfl rfl ?_
      refine JV.stk (len := 1) (sem := s_ishr) (p2 := 3) rfl rfl rfl ?_
      refine JV.ist (p2 := 4) rfl rfl rfl ?_
      refine JV.ild (p2 := 5) rfl rfl rfl ?_
      refine JV.stk (len := 2) (sem := (s_push (.int 10))) (p2 := 7) rfl rfl rfl ?_
      refine JV.insI (p2 := 10) rfl (Nat.le_of_ble_eq_true rfl) rfl rfl (Nat.le_of_ble_eq_true rfl) rfl (ev_up (by omega) (by decide)) rfl ?_
      refine JV.top (er) ?_
      refine JV.sw (t := 198) rfl ((sw_t (by omega)).trans (rfl)) ?_
      refine JV.ald (p2 := 199) rfl rfl rfl ?_
      refine JV.stk (len := 1) (sem := (s_push (.int 2))) (p2 := 200) rfl rfl rfl ?_
      refine JV.invI (p2 := 203) rfl rfl rfl lw_o (Nat.le_of_ble_eq_true rfl) rfl (o_value (by omega) h.k1 bd (vl_of (k := 2) (by decide) rfl)) ?_
      refine JV.top (an_2) ?_
      refine JV.brF (p2 := 206) rfl rfl rfl (fun z => z g0) ?_
      refine JV.stk (len := 1) (sem := (s_push (.int 0))) (p2 := 207) rfl rfl rfl ?_
      refine JV.goto rfl ?_
      refine JV.ist (p2 := 221) rfl rfl rfl ?_
      refine JV.ald (p2 := 222) rfl rfl rfl ?_
      refine JV.stk (len := 1) (sem := (s_push (.int 2))) (p2 := 223) rfl rfl rfl ?_
      refine JV.invI (p2 := 226) rfl rfl rfl lw_o (Nat.le_of_ble_eq_true rfl) rfl (o_value (by omega) h.k1 bd (vl_of (k := 2) (by decide) rfl)) ?_
      refine JV.top (an_2) ?_
      refine JV.brT rfl rfl (g0) ?_
      refine JV.stk (len := 1) (sem := (s_push (.int 1))) (p2 := 241) rfl rfl rfl ?_
      exact JV.ret rfl (fun _ => rfl) rfl rfl
    · have n0 : 0 < ix (S 1 0 0 2) := by
        rcases Nat.eq_zero_or_pos (ix (S 1 0 0 2)) with z | z
        · exact absurd (by rw [nm, z]; rfl) g0
        · exact z
      obtain ⟨q, hq, eq⟩ := up_ex (N := ix (S 1 0 0 2)) (y := S 1 0 0 2) (x >>> (4 &&& 31)) nm n0 (by omega)
      obtain ⟨rl, hrl, erl⟩ := up_ex (N := 200) (y := 200) ((x >>> (4 &&& 31)) >>> (4 &&& 31)) rfl (by decide) (by decide)
      have vc := hC q hq
      have bc := vc.2
      have e5 : S 1 3 q 2 + 1 + nI rl = nI (ix (S 1 3 q 2) + 1 + rl) := by
        conv => lhs; rw [vc.1]
        rw [nI_1, nI_add]
      by_cases g3 : S 1 3 q 5 ≤ 3
      · have n4 : ¬ S 1 3 q 5 = 4 := fun z => by rw [z] at g3; exact absurd g3 (by decide)
        have n5 : ¬ S 1 3 q 5 = 5 := fun z => by rw [z] at g3; exact absurd g3 (by decide)
        have q1 : S 1 3 q 2 < nI (ix (S 1 3 q 2) + 1 + rl) := by
          conv => lhs; rw [vc.1]
          exact nI_lt (by omega) (by omega)
        have q2 : ¬ 1999 < nI (ix (S 1 3 q 2) + 1 + rl) := nI_nlt (a := 1999) (by omega) (by decide)
        obtain ⟨v, c1, c2, hL, h3⟩ := h.lea hq q1 q2 n4 n5
        refine ⟨_, _, hL.mono (by omega) (by omega), ?_, by rw [h3]; omega, ?_⟩
        · rw [lea_1 h hq q1 q2 n4 n5]
          exact hC.cg (up3_ne (by omega)) (fun p => up3_ne (by omega))
        · refine jv_mk (m := mL_isStep) (cd := jcL_isStep) rfl rfl (Nat.le_of_ble_eq_true rfl) (Or.inr rfl) ?_
          refine JV.ild (p2 := 1) rfl rfl rfl ?_
          refine JV.stk (len := 1) (sem := (s_push (.int 4))) (p2 := 2) rfl rfl rfl ?_
          refine JV.stk (len := 1) (sem := s_ishr) (p2 := 3) rfl rfl rfl ?_
          refine JV.ist (p2 := 4) rfl rfl rfl ?_
          refine JV.ild (p2 := 5) rfl rfl rfl ?_
          refine JV.stk (len := 2) (sem := (s_push (.int 10))) (p2 := 7) rfl rfl rfl ?_
          refine JV.insI (p2 := 10) rfl (Nat.le_of_ble_eq_true rfl) rfl rfl (Nat.le_of_ble_eq_true rfl) rfl (ev_up (by omega) (by decide)) rfl ?_
          refine JV.top (er) ?_
          refine JV.sw (t := 198) rfl ((sw_t (by omega)).trans (rfl)) ?_
          refine JV.ald (p2 := 199) rfl rfl rfl ?_
          refine JV.stk (len := 1) (sem := (s_push (.int 2))) (p2 := 200) rfl rfl rfl ?_
          refine JV.invI (p2 := 203) rfl rfl rfl lw_o (Nat.le_of_ble_eq_true rfl) rfl (o_value (by omega) h.k1 bd (vl_of (k := 2) (by decide) rfl)) ?_
          refine JV.top (an_2) ?_
          refine JV.brT rfl rfl (g0) ?_
          refine JV.ild (p2 := 211) rfl rfl rfl ?_
          refine JV.ald (p2 := 212) rfl rfl rfl ?_
          refine JV.stk (len := 1) (sem := (s_push (.int 2))) (p2 := 213) rfl rfl rfl ?_
          refine JV.invI (p2 := 216) rfl rfl rfl lw_o (Nat.le_of_ble_eq_true rfl) rfl (o_value (by omega) h.k1 bd (vl_of (k := 2) (by decide) rfl)) ?_
          refine JV.top (an_2) ?_
          refine JV.insI (p2 := 219) rfl (Nat.le_of_ble_eq_true rfl) rfl rfl (Nat.le_of_ble_eq_true rfl) rfl (ev_up (by omega) g0) rfl ?_
          refine JV.top (eq) ?_
          refine JV.ist (p2 := 221) rfl rfl rfl ?_
          refine JV.ald (p2 := 222) rfl rfl rfl ?_
          refine JV.stk (len := 1) (sem := (s_push (.int 2))) (p2 := 223) rfl rfl rfl ?_
          refine JV.invI (p2 := 226) rfl rfl rfl lw_o (Nat.le_of_ble_eq_true rfl) rfl (o_value (by omega) h.k1 bd (vl_of (k := 2) (by decide) rfl)) ?_
          refine JV.top (an_2) ?_
          refine JV.brF (p2 := 229) rfl rfl rfl (g0) ?_
          refine JV.ald (p2 := 230) rfl rfl rfl ?_
          refine JV.ild (p2 := 232) rfl rfl rfl ?_
          refine JV.stk (len := 1) (sem := (s_push (.int 5))) (p2 := 233) rfl rfl rfl ?_
          refine JV.invI (p2 := 236) rfl rfl rfl lw_o (Nat.le_of_ble_eq_true rfl) rfl (o_aircraft (by omega) h.k1 bd (ac_of (k := 5) h.i1 hq (by decide) rfl rfl)) ?_
          refine JV.stk (len := 1) (sem := (s_push (.int 3))) (p2 := 237) rfl rfl rfl ?_
          refine JV.brT rfl rfl (g3) ?_
          refine JV.ald (p2 := 243) rfl rfl rfl ?_
          refine JV.ild (p2 := 245) rfl rfl rfl ?_
          refine JV.stk (len := 1) (sem := (s_push (.int 2))) (p2 := 246) rfl rfl rfl ?_
          refine JV.invI (p2 := 249) rfl rfl rfl lw_o (Nat.le_of_ble_eq_true rfl) rfl (o_aircraft (by omega) h.k1 bd (ac_of (k := 2) h.i1 hq (by decide) rfl rfl)) ?_
          refine JV.stk (len := 1) (sem := (s_push (.int 1))) (p2 := 250) rfl rfl rfl ?_
          refine JV.stk (len := 1) (sem := s_iadd) (p2 := 251) rfl rfl rfl ?_
          refine JV.ild (p2 := 252) rfl rfl rfl ?_
          refine JV.stk (len := 1) (sem := (s_push (.int 4))) (p2 := 253) rfl rfl rfl ?_
          refine JV.stk (len := 1) (sem := s_ishr) (p2 := 254) rfl rfl rfl ?_
          refine JV.stk (len := 3) (sem := (s_push (.int 200))) (p2 := 257) rfl rfl rfl ?_
          refine JV.insI (p2 := 260) rfl (Nat.le_of_ble_eq_true rfl) rfl rfl (Nat.le_of_ble_eq_true rfl) rfl (ev_up (by omega) (by decide)) rfl ?_
          refine JV.top (erl) ?_
          refine JV.stk (len := 1) (sem := s_iadd) (p2 := 261) rfl rfl rfl ?_
          refine JV.top (e5) ?_
          refine JV.ist (p2 := 263) rfl rfl rfl ?_
          refine JV.ald (p2 := 264) rfl rfl rfl ?_
          refine JV.ild (p2 := 266) rfl rfl rfl ?_
          refine JV.ild (p2 := 268) rfl rfl rfl ?_
          refine JV.invI (p2 := 271) rfl rfl rfl lw_o (Nat.le_of_ble_eq_true rfl) rfl (o_setLeaves (by omega) h.k1 bd c1) ?_
          refine JV.ald (p2 := 272) rfl rfl rfl ?_
          refine JV.ild (p2 := 274) rfl rfl rfl ?_
          refine JV.ild (p2 := 276) rfl rfl rfl ?_
          refine JV.invI (p2 := 279) rfl rfl rfl lw_p (Nat.le_of_ble_eq_true rfl) rfl (p_setLeaves (by omega) h.k2 bd c2) ?_
          refine JV.brF (p2 := 282) rfl rfl rfl (fun z => z rfl) ?_
          refine JV.stk (len := 1) (sem := (s_push (.int 1))) (p2 := 283) rfl rfl rfl ?_
          refine JV.goto rfl ?_
          exact JV.ret rfl (fun _ => rfl) rfl rfl
      · refine ⟨S, T, same _ ?_⟩
        refine jv_mk (m := mL_isStep) (cd := jcL_isStep) rfl rfl (Nat.le_of_ble_eq_true rfl) (Or.inr rfl) ?_
        refine JV.ild (p2 := 1) rfl rfl rfl ?_
        refine JV.stk (len := 1) (sem := (s_push (.int 4))) (p2 := 2) rfl rfl rfl ?_
        refine JV.stk (len := 1) (sem := s_ishr) (p2 := 3) rfl rfl rfl ?_
        refine JV.ist (p2 := 4) rfl rfl rfl ?_
        refine JV.ild (p2 := 5) rfl rfl rfl ?_
        refine JV.stk (len := 2) (sem := (s_push (.int 10))) (p2 := 7) rfl rfl rfl ?_
        refine JV.insI (p2 := 10) rfl (Nat.le_of_ble_eq_true rfl) rfl rfl (Nat.le_of_ble_eq_true rfl) rfl (ev_up (by omega) (by decide)) rfl ?_
        refine JV.top (er) ?_
        refine JV.sw (t := 198) rfl ((sw_t (by omega)).trans (rfl)) ?_
        refine JV.ald (p2 := 199) rfl rfl rfl ?_
        refine JV.stk (len := 1) (sem := (s_push (.int 2))) (p2 := 200) rfl rfl rfl ?_
        refine JV.invI (p2 := 203) rfl rfl rfl lw_o (Nat.le_of_ble_eq_true rfl) rfl (o_value (by omega) h.k1 bd (vl_of (k := 2) (by decide) rfl)) ?_
        refine JV.top (an_2) ?_
        refine JV.brT rfl rfl (g0) ?_
        refine JV.ild (p2 := 211) rfl rfl rfl ?_
        refine JV.ald (p2 := 212) rfl rfl rfl ?_
        refine JV.stk (len := 1) (sem := (s_push (.int 2))) (p2 := 213) rfl rfl rfl ?_
        refine JV.invI (p2 := 216) rfl rfl rfl lw_o (Nat.le_of_ble_eq_true rfl) rfl (o_value (by omega) h.k1 bd (vl_of (k := 2) (by decide) rfl)) ?_
        refine JV.top (an_2) ?_
        refine JV.insI (p2 := 219) rfl (Nat.le_of_ble_eq_true rfl) rfl rfl (Nat.le_of_ble_eq_true rfl) rfl (ev_up (by omega) g0) rfl ?_
        refine JV.top (eq) ?_
        refine JV.ist (p2 := 221) rfl rfl rfl ?_
        refine JV.ald (p2 := 222) rfl rfl rfl ?_
        refine JV.stk (len := 1) (sem := (s_push (.int 2))) (p2 := 223) rfl rfl rfl ?_
        refine JV.invI (p2 := 226) rfl rfl rfl lw_o (Nat.le_of_ble_eq_true rfl) rfl (o_value (by omega) h.k1 bd (vl_of (k := 2) (by decide) rfl)) ?_
        refine JV.top (an_2) ?_
        refine JV.brF (p2 := 229) rfl rfl rfl (g0) ?_
        refine JV.ald (p2 := 230) rfl rfl rfl ?_
        refine JV.ild (p2 := 232) rfl rfl rfl ?_
        refine JV.stk (len := 1) (sem := (s_push (.int 5))) (p2 := 233) rfl rfl rfl ?_
        refine JV.invI (p2 := 236) rfl rfl rfl lw_o (Nat.le_of_ble_eq_true rfl) rfl (o_aircraft (by omega) h.k1 bd (ac_of (k := 5) h.i1 hq (by decide) rfl rfl)) ?_
        refine JV.stk (len := 1) (sem := (s_push (.int 3))) (p2 := 237) rfl rfl rfl ?_
        refine JV.brF (p2 := 240) rfl rfl rfl (g3) ?_
        refine JV.stk (len := 1) (sem := (s_push (.int 1))) (p2 := 241) rfl rfl rfl ?_
        exact JV.ret rfl (fun _ => rfl) rfl rfl
  · -- minutes pass
    obtain ⟨rm, hrm, erm⟩ := up_ex (N := 20) (y := 20) (x >>> (4 &&& 31)) rfl (by decide) (by decide)
    have ep : (1 : Int32) + nI rm = nI (1 + rm) := by rw [show (1 : Int32) = nI 1 from rfl, nI_add]
    obtain ⟨v, c1, c2, -, hL, h3⟩ := h.pas (P := 1 + rm) (B' := B + 20000) (by omega) (by omega) (by omega) (by omega) (by omega)
    refine ⟨_, _, hL, ?_, by rw [h3]; omega, ?_⟩
    · rw [(pass_of (P := 1 + rm) h.qq.1 h.sv.1 (by omega) (by omega) (by omega) (by omega)).2.1]
      exact hC.mk h.qq.1 (by omega) (by omega)
    · refine jv_mk (m := mL_isStep) (cd := jcL_isStep) rfl rfl (Nat.le_of_ble_eq_true rfl) (Or.inr rfl) ?_
      refine JV.ild (p2 := 1) rfl rfl rfl ?_
      refine JV.stk (len := 1) (sem := (s_push (.int 4))) (p2 := 2) rfl rfl rfl ?_
      refine JV.stk (len := 1) (sem := s_ishr) (p2 := 3) rfl rfl rfl ?_
      refine JV.ist (p2 := 4) rfl rfl rfl ?_
      refine JV.ild (p2 := 5) rfl rfl rfl ?_
      refine JV.stk (len := 2) (sem := (s_push (.int 10))) (p2 := 7) rfl rfl rfl ?_
      refine JV.insI (p2 := 10) rfl (Nat.le_of_ble_eq_true rfl) rfl rfl (Nat.le_of_ble_eq_true rfl) rfl (ev_up (by omega) (by decide)) rfl ?_
      refine JV.top (er) ?_
      refine JV.sw (t := 288) rfl ((sw_t (by omega)).trans (by rcases (show r = 5 ∨ r = 6 ∨ r = 7 ∨ r = 8 ∨ r = 9 by omega) with e | e | e | e | e <;> rw [e] <;> rfl)) ?_
      refine JV.ald (p2 := 289) rfl rfl rfl ?_
      refine JV.stk (len := 1) (sem := (s_push (.int 1))) (p2 := 290) rfl rfl rfl ?_
      refine JV.ild (p2 := 291) rfl rfl rfl ?_
      refine JV.stk (len := 2) (sem := (s_push (.int 20))) (p2 := 293) rfl rfl rfl ?_
      refine JV.insI (p2 := 296) rfl (Nat.le_of_ble_eq_true rfl) rfl rfl (Nat.le_of_ble_eq_true rfl) rfl (ev_up (by omega) (by decide)) rfl ?_
      refine JV.top (erm) ?_
      refine JV.stk (len := 1) (sem := s_iadd) (p2 := 297) rfl rfl rfl ?_
      refine JV.top (ep) ?_
      refine JV.invI (p2 := 300) rfl rfl rfl lw_o (Nat.le_of_ble_eq_true rfl) rfl (o_pass (by omega) h.k1 bd c1) ?_
      refine JV.ald (p2 := 301) rfl rfl rfl ?_
      refine JV.stk (len := 1) (sem := (s_push (.int 1))) (p2 := 302) rfl rfl rfl ?_
      refine JV.ild (p2 := 303) rfl rfl rfl ?_
      refine JV.stk (len := 2) (sem := (s_push (.int 20))) (p2 := 305) rfl rfl rfl ?_
      refine JV.insI (p2 := 308) rfl (Nat.le_of_ble_eq_true rfl) rfl rfl (Nat.le_of_ble_eq_true rfl) rfl (ev_up (by omega) (by decide)) rfl ?_
      refine JV.top (erm) ?_
      refine JV.stk (len := 1) (sem := s_iadd) (p2 := 309) rfl rfl rfl ?_
      refine JV.top (ep) ?_
      refine JV.invI (p2 := 312) rfl rfl rfl lw_p (Nat.le_of_ble_eq_true rfl) rfl (p_pass (by omega) h.k2 bd c2) ?_
      refine JV.brF (p2 := 315) rfl rfl rfl (fun z => z rfl) ?_
      refine JV.stk (len := 1) (sem := (s_push (.int 1))) (p2 := 316) rfl rfl rfl ?_
      refine JV.goto rfl ?_
      exact JV.ret rfl (fun _ => rfl) rfl rfl
end STP
