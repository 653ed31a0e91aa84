/-! both objects are alike -/
theorem JV.top {E : JE} {cd : List (Nat × JA)} {pc : Nat} {l : List (Nat × Value)} {r : List Value} {h hf : JH} {o : JO} {x y : Int32} (e : x = y) (kk : JV E cd (pc, l, .int y :: r) h o hf) : JV E cd (pc, l, .int x :: r) h o hf := by
  rw [e]
  exact kk
section ALK
variable {n c s B B' : Nat} {S T S' T' : Sys} {o : JO} {hf : JH} {q k : Nat}
theorem sub_n {a : Nat} {x : Int32} (hx : x = nI a) (h : k ≤ a) : x - nI k = nI (a - k) := by
  rw [hx]
  exact pk_sub h
set_option maxRecDepth 100000 in
theorem al_16 (h : LI B S T) (kk : JV (Ev mtab mcode 7) jcL_areAlike (66, [(0, .ref 1), (1, .ref 183), (2, .int 1), (3, .int (nI 16))], []) (n, c, s, lw S T) o hf) : ∀ (e k : Nat), k + e = 16 → JV (Ev mtab mcode 7) jcL_areAlike (31, [(0, .ref 1), (1, .ref 183), (2, .int 1), (3, .int (nI k))], []) (n, c, s, lw S T) o hf
  | 0, k, hk => by
    have hk : k = 16 := by omega
    subst hk
    refine JV.ild (p2 := 32) rfl rfl rfl ?_
    refine JV.stk (len := 2) (sem := (s_push (.int 16))) (p2 := 34) rfl rfl rfl ?_
    refine JV.brT rfl rfl (by exact nI_le (a := 16) (b := 16) (by omega) (by omega)) ?_
    exact kk
  | e + 1, k, hk => by
    have bd := h.bd
    refine JV.ild (p2 := 32) rfl rfl rfl ?_
    refine JV.stk (len := 2) (sem := (s_push (.int 16))) (p2 := 34) rfl rfl rfl ?_
    refine JV.brF (p2 := 37) rfl rfl rfl (by exact nI_ge (a := k) (b := 16) (by omega) (by omega)) ?_
    refine JV.ild (p2 := 38) rfl rfl rfl ?_
    refine JV.brF (p2 := 41) rfl rfl rfl (by decide) ?_
    refine JV.ald (p2 := 42) rfl rfl rfl ?_
    refine JV.ild (p2 := 43) rfl rfl rfl ?_
    refine JV.invI (p2 := 46) rfl rfl rfl lw_o (Nat.le_of_ble_eq_true rfl) rfl (o_value (by omega) h.k1 bd (vl_of (k := k) (by omega) rfl)) ?_
    refine JV.ald (p2 := 47) rfl rfl rfl ?_
    refine JV.ild (p2 := 48) rfl rfl rfl ?_
    refine JV.invI (p2 := 51) rfl rfl rfl lw_p (Nat.le_of_ble_eq_true rfl) rfl (p_value (by omega) h.k2 bd (h.vl (k := k) (by omega) rfl)) ?_
    refine JV.brF (p2 := 54) rfl rfl rfl (fun z => z rfl) ?_
    refine JV.stk (len := 1) (sem := (s_push (.int 1))) (p2 := 55) rfl rfl rfl ?_
    refine JV.goto rfl ?_
    refine JV.ist (p2 := 60) rfl rfl rfl ?_
    refine JV.iinc (p2 := 63) rfl rfl (nI_1 k) rfl rfl ?_
    refine JV.goto rfl ?_
    exact al_16 h kk e (k + 1) (by omega)
set_option maxRecDepth 100000 in
theorem al_10 (h : LI B S T) (hq : q < ix (S 1 0 0 2)) (kk : JV (Ev mtab mcode 7) jcL_areAlike (149, [(0, .ref 1), (1, .ref 183), (2, .int 1), (3, .int (nI q)), (4, .int (nI 10))], []) (n, c, s, lw S T) o hf) : ∀ (e k : Nat), k + e = 10 → JV (Ev mtab mcode 7) jcL_areAlike (84, [(0, .ref 1), (1, .ref 183), (2, .int 1), (3, .int (nI q)), (4, .int (nI k))], []) (n, c, s, lw S T) o hf
  | 0, k, hk => by
    have hk : k = 10 := by omega
    subst hk
    refine JV.ild (p2 := 86) rfl rfl rfl ?_
    refine JV.stk (len := 2) (sem := (s_push (.int 10))) (p2 := 88) rfl rfl rfl ?_
    refine JV.brT rfl rfl (by exact nI_le (a := 10) (b := 10) (by omega) (by omega)) ?_
    exact kk
  | e + 1, k, hk => by
    have bd := h.bd
    refine JV.ild (p2 := 86) rfl rfl rfl ?_
    refine JV.stk (len := 2) (sem := (s_push (.int 10))) (p2 := 88) rfl rfl rfl ?_
    refine JV.brF (p2 := 91) rfl rfl rfl (by exact nI_ge (a := k) (b := 10) (by omega) (by omega)) ?_
    refine JV.ild (p2 := 93) rfl rfl rfl ?_
    refine JV.stk (len := 2) (sem := (s_push (.int 6))) (p2 := 95) rfl rfl rfl ?_
    by_cases g : k = 6
    · refine JV.brF (p2 := 98) rfl rfl rfl (by rw [g]; decide) ?_
      refine JV.ald (p2 := 99) rfl rfl rfl ?_
      refine JV.ild (p2 := 100) rfl rfl rfl ?_
      refine JV.stk (len := 2) (sem := (s_push (.int 6))) (p2 := 102) rfl rfl rfl ?_
      refine JV.invI (p2 := 105) rfl rfl rfl lw_o (Nat.le_of_ble_eq_true rfl) rfl (o_aircraft (by omega) h.k1 bd (ac_of (k := 6) h.i1 hq (by decide) rfl rfl)) ?_
      refine JV.stk (len := 1) (sem := (s_push (.int 3))) (p2 := 106) rfl rfl rfl ?_
      refine JV.insI (p2 := 109) rfl (Nat.le_of_ble_eq_true rfl) rfl rfl (Nat.le_of_ble_eq_true rfl) rfl (ev_turned (by omega)) rfl ?_
      refine JV.goto rfl ?_
      refine JV.ist (p2 := 121) rfl rfl rfl ?_
      refine JV.ild (p2 := 122) rfl rfl rfl ?_
      refine JV.brF (p2 := 125) rfl rfl rfl (by decide) ?_
      refine JV.ild (p2 := 127) rfl rfl rfl ?_
      refine JV.ald (p2 := 128) rfl rfl rfl ?_
      refine JV.ild (p2 := 129) rfl rfl rfl ?_
      refine JV.ild (p2 := 131) rfl rfl rfl ?_
      refine JV.invI (p2 := 134) rfl rfl rfl lw_p (Nat.le_of_ble_eq_true rfl) rfl (p_aircraft (by omega) h.k2 bd (h.ac (k := k) hq (by omega) rfl rfl)) ?_
      refine JV.brF (p2 := 137) rfl rfl rfl (fun z => z (by rw [if_pos g]; exact tu_trn (by have e := h.i1.s6 hq; rw [h.n4] at e; exact e))) ?_
      refine JV.stk (len := 1) (sem := (s_push (.int 1))) (p2 := 138) rfl rfl rfl ?_
      refine JV.goto rfl ?_
      refine JV.ist (p2 := 143) rfl rfl rfl ?_
      refine JV.iinc (p2 := 146) rfl rfl (nI_1 k) rfl rfl ?_
      refine JV.goto rfl ?_
      refine JV.keep [0, 1, 2, 3, 4] rfl ?_
      exact al_10 h hq kk e (k + 1) (by omega)
    · refine JV.brT rfl rfl (fun z => g (nI_inj (by omega) (by decide) z)) ?_
      refine JV.ald (p2 := 113) rfl rfl rfl ?_
      refine JV.ild (p2 := 114) rfl rfl rfl ?_
      refine JV.ild (p2 := 116) rfl rfl rfl ?_
      refine JV.invI (p2 := 119) rfl rfl rfl lw_o (Nat.le_of_ble_eq_true rfl) rfl (o_aircraft (by omega) h.k1 bd (ac_of (k := k) h.i1 hq (by omega) rfl rfl)) ?_
      refine JV.ist (p2 := 121) rfl rfl rfl ?_
      refine JV.ild (p2 := 122) rfl rfl rfl ?_
      refine JV.brF (p2 := 125) rfl rfl rfl (by decide) ?_
      refine JV.ild (p2 := 127) rfl rfl rfl ?_
      refine JV.ald (p2 := 128) rfl rfl rfl ?_
      refine JV.ild (p2 := 129) rfl rfl rfl ?_
      refine JV.ild (p2 := 131) rfl rfl rfl ?_
      refine JV.invI (p2 := 134) rfl rfl rfl lw_p (Nat.le_of_ble_eq_true rfl) rfl (p_aircraft (by omega) h.k2 bd (h.ac (k := k) hq (by omega) rfl rfl)) ?_
      refine JV.brF (p2 := 137) rfl rfl rfl (fun z => z (if_neg g).symm) ?_
      refine JV.stk (len := 1) (sem := (s_push (.int 1))) (p2 := 138) rfl rfl rfl ?_
      refine JV.goto rfl ?_
      refine JV.ist (p2 := 143) rfl rfl rfl ?_
      refine JV.iinc (p2 := 146) rfl rfl (nI_1 k) rfl rfl ?_
      refine JV.goto rfl ?_
      refine JV.keep [0, 1, 2, 3, 4] rfl ?_
      exact al_10 h hq kk e (k + 1) (by omega)
set_option maxRecDepth 100000 in
theorem al_acs : ∀ (e q B : Nat) (S T : Sys), LI B S T → q + e = ix (S 1 0 0 2) → B + 120000 * e + 200000 < 2147483648 → ∃ S' T', LI (B + 120000 * e) S' T' ∧ S' 1 = S 1 ∧ T' 1 = T 1 ∧ ∀ (o : JO) (hf : JH), JV (Ev mtab mcode 7) jcL_areAlike (191, [(0, .ref 1), (1, .ref 183), (2, .int 1), (3, .int (nI (ix (S 1 0 0 2))))], []) (n, c, s, lw S' T') o hf → JV (Ev mtab mcode 7) jcL_areAlike (68, [(0, .ref 1), (1, .ref 183), (2, .int 1), (3, .int (nI q))], []) (n, c, s, lw S T) o hf
  | 0, q, B, S, T, h, hq, hB => by
    have bd := h.bd
    have nb := h.i1.na.2
    have nm := h.i1.na.1
    have hq : q = ix (S 1 0 0 2) := by omega
    subst hq
    refine ⟨S, T, h, rfl, rfl, fun o hf kk => ?_⟩
    refine JV.ild (p2 := 69) rfl rfl rfl ?_
    refine JV.ald (p2 := 70) rfl rfl rfl ?_
    refine JV.stk (len := 1) (sem := (s_push (.int 2))) (p2 := 71) rfl rfl rfl ?_
    refine JV.invI (p2 := 74) rfl rfl rfl lw_o (Nat.le_of_ble_eq_true rfl) rfl (o_value (by omega) h.k1 bd (vl_of (k := 2) (by decide) rfl)) ?_
    refine JV.top (an_2) ?_
    refine JV.brT rfl rfl (Int32.not_lt.mp (fun z => nI_nlt (a := ix (S 1 0 0 2)) (b := ix (S 1 0 0 2)) (Nat.le_refl _) (by omega) (nm ▸ z))) ?_
    exact kk
  | e + 1, q, B, S, T, h, hq, hB => by
    have bd := h.bd
    have nb := h.i1.na.2
    have nm := h.i1.na.1
    have hl : q < ix (S 1 0 0 2) := by omega
    obtain ⟨B1, hB1⟩ : ∃ B1, B1 = B + 117100 := ⟨_, rfl⟩
    have c1 : B + 117100 ≤ B1 := Nat.le_of_eq hB1.symm
    have c2 : B1 + 200000 < 2147483648 := by omega
    obtain ⟨hL, ⟨v, d1, d2⟩, x1, y1⟩ := h.del (q := q) hl c1 c2
    obtain ⟨S', T', hL', x2, y2, kk⟩ := al_acs e (q + 1) B1 _ _ hL (by rw [x1]; omega) (by omega)
    refine ⟨S', T', hL'.mono (by omega) (by omega), x2.trans x1, y2.trans y1, fun o hf kn => ?_⟩
    have kn' := kk o hf (by rw [x1]; exact kn)
    refine JV.ild (p2 := 69) rfl rfl rfl ?_
    refine JV.ald (p2 := 70) rfl rfl rfl ?_
    refine JV.stk (len := 1) (sem := (s_push (.int 2))) (p2 := 71) rfl rfl rfl ?_
    refine JV.invI (p2 := 74) rfl rfl rfl lw_o (Nat.le_of_ble_eq_true rfl) rfl (o_value (by omega) h.k1 bd (vl_of (k := 2) (by decide) rfl)) ?_
    refine JV.top (an_2) ?_
    refine JV.brF (p2 := 77) rfl rfl rfl (fun z => Int32.not_lt.mpr z (by rw [nm]; exact nI_lt hl (by omega))) ?_
    refine JV.ild (p2 := 78) rfl rfl rfl ?_
    refine JV.brF (p2 := 81) rfl rfl rfl (by decide) ?_
    refine JV.stk (len := 1) (sem := (s_push (.int 0))) (p2 := 82) rfl rfl rfl ?_
    refine JV.ist (p2 := 84) rfl rfl rfl ?_
    refine al_10 h hl ?_ 10 0 rfl
    refine JV.ild (p2 := 150) rfl rfl rfl ?_
    refine JV.brF (p2 := 153) rfl rfl rfl (by decide) ?_
    refine JV.ald (p2 := 154) rfl rfl rfl ?_
    refine JV.ild (p2 := 155) rfl rfl rfl ?_
    refine JV.invI (p2 := 158) rfl rfl rfl lw_o (Nat.le_of_ble_eq_true rfl) rfl (o_why (by omega) h.k1 bd (wy_of h.i1 hl rfl)) ?_
    refine JV.ald (p2 := 159) rfl rfl rfl ?_
    refine JV.ild (p2 := 160) rfl rfl rfl ?_
    refine JV.invI (p2 := 163) rfl rfl rfl lw_p (Nat.le_of_ble_eq_true rfl) rfl (p_why (by omega) h.k2 bd (h.wy hl rfl)) ?_
    refine JV.brF (p2 := 166) rfl rfl rfl (fun z => z rfl) ?_
    refine JV.ald (p2 := 167) rfl rfl rfl ?_
    refine JV.ild (p2 := 168) rfl rfl rfl ?_
    refine JV.invI (p2 := 171) rfl rfl rfl lw_o (Nat.le_of_ble_eq_true rfl) rfl (o_delayOf (by omega) h.k1 bd d1) ?_
    refine JV.ald (p2 := 172) rfl rfl rfl ?_
    refine JV.ild (p2 := 173) rfl rfl rfl ?_
    refine JV.invI (p2 := 176) rfl rfl rfl lw_p (Nat.le_of_ble_eq_true rfl) rfl (p_delayOf (by omega) h.k2 bd d2) ?_
    refine JV.brF (p2 := 179) rfl rfl rfl (fun z => z rfl) ?_
    refine JV.stk (len := 1) (sem := (s_push (.int 1))) (p2 := 180) rfl rfl rfl ?_
    refine JV.goto rfl ?_
    refine JV.ist (p2 := 185) rfl rfl rfl ?_
    refine JV.iinc (p2 := 188) rfl rfl (nI_1 q) rfl rfl ?_
    refine JV.goto rfl ?_
    refine JV.keep [0, 1, 2, 3] rfl ?_
    exact kn'
set_option maxRecDepth 100000 in
theorem al_st4 (h : LI B S T) (hq : q < 4) (kk : JV (Ev mtab mcode 7) jcL_areAlike (246, [(0, .ref 1), (1, .ref 183), (2, .int 1), (3, .int (nI q)), (4, .int (nI 4))], []) (n, c, s, lw S T) o hf) : ∀ (e k : Nat), k + e = 4 → JV (Ev mtab mcode 7) jcL_areAlike (205, [(0, .ref 1), (1, .ref 183), (2, .int 1), (3, .int (nI q)), (4, .int (nI k))], []) (n, c, s, lw S T) o hf
  | 0, k, hk => by
    have hk : k = 4 := by omega
    subst hk
    refine JV.ild (p2 := 207) rfl rfl rfl ?_
    refine JV.stk (len := 1) (sem := (s_push (.int 4))) (p2 := 208) rfl rfl rfl ?_
    refine JV.brT rfl rfl (by exact nI_le (a := 4) (b := 4) (by omega) (by omega)) ?_
    exact kk
  | e + 1, k, hk => by
    have bd := h.bd
    refine JV.ild (p2 := 207) rfl rfl rfl ?_
    refine JV.stk (len := 1) (sem := (s_push (.int 4))) (p2 := 208) rfl rfl rfl ?_
    refine JV.brF (p2 := 211) rfl rfl rfl (by exact nI_ge (a := k) (b := 4) (by omega) (by omega)) ?_
    refine JV.ild (p2 := 212) rfl rfl rfl ?_
    refine JV.brF (p2 := 215) rfl rfl rfl (by decide) ?_
    refine JV.ald (p2 := 216) rfl rfl rfl ?_
    refine JV.ild (p2 := 217) rfl rfl rfl ?_
    refine JV.ild (p2 := 219) rfl rfl rfl ?_
    refine JV.invI (p2 := 222) rfl rfl rfl lw_o (Nat.le_of_ble_eq_true rfl) rfl (o_stand (by omega) h.k1 bd (st_of (k := k) (j := q) h.i1 (by rw [h.n4]; exact hq) (by omega) rfl rfl)) ?_
    refine JV.ald (p2 := 223) rfl rfl rfl ?_
    refine JV.stk (len := 1) (sem := (s_push (.int 3))) (p2 := 224) rfl rfl rfl ?_
    refine JV.ild (p2 := 225) rfl rfl rfl ?_
    refine JV.stk (len := 1) (sem := s_isub) (p2 := 226) rfl rfl rfl ?_
    refine JV.ild (p2 := 228) rfl rfl rfl ?_
    refine JV.invI (p2 := 231) rfl rfl rfl lw_p (Nat.le_of_ble_eq_true rfl) rfl (p_stand (by omega) h.k2 bd (h.st (k := k) (j := q) hq (by omega) (sub_n rfl (by omega)) rfl)) ?_
    refine JV.brF (p2 := 234) rfl rfl rfl (fun z => z rfl) ?_
    refine JV.stk (len := 1) (sem := (s_push (.int 1))) (p2 := 235) rfl rfl rfl ?_
    refine JV.goto rfl ?_
    refine JV.ist (p2 := 240) rfl rfl rfl ?_
    refine JV.iinc (p2 := 243) rfl rfl (nI_1 k) rfl rfl ?_
    refine JV.goto rfl ?_
    exact al_st4 h hq kk e (k + 1) (by omega)
set_option maxRecDepth 100000 in
theorem al_sts (h : LI B S T) (kk : JV (Ev mtab mcode 7) jcL_areAlike (252, [(0, .ref 1), (1, .ref 183), (2, .int 1), (3, .int (nI 4))], []) (n, c, s, lw S T) o hf) : ∀ (e k : Nat), k + e = 4 → JV (Ev mtab mcode 7) jcL_areAlike (193, [(0, .ref 1), (1, .ref 183), (2, .int 1), (3, .int (nI k))], []) (n, c, s, lw S T) o hf
  | 0, k, hk => by
    have hk : k = 4 := by omega
    subst hk
    refine JV.ild (p2 := 194) rfl rfl rfl ?_
    refine JV.stk (len := 1) (sem := (s_push (.int 4))) (p2 := 195) rfl rfl rfl ?_
    refine JV.brT rfl rfl (by exact nI_le (a := 4) (b := 4) (by omega) (by omega)) ?_
    exact kk
  | e + 1, k, hk => by
    have bd := h.bd
    refine JV.ild (p2 := 194) rfl rfl rfl ?_
    refine JV.stk (len := 1) (sem := (s_push (.int 4))) (p2 := 195) rfl rfl rfl ?_
    refine JV.brF (p2 := 198) rfl rfl rfl (by exact nI_ge (a := k) (b := 4) (by omega) (by omega)) ?_
    refine JV.ild (p2 := 199) rfl rfl rfl ?_
    refine JV.brF (p2 := 202) rfl rfl rfl (by decide) ?_
    refine JV.stk (len := 1) (sem := (s_push (.int 0))) (p2 := 203) rfl rfl rfl ?_
    refine JV.ist (p2 := 205) rfl rfl rfl ?_
    refine al_st4 h (q := k) (by omega) ?_ 4 0 rfl
    refine JV.iinc (p2 := 249) rfl rfl (nI_1 k) rfl rfl ?_
    refine JV.goto rfl ?_
    refine JV.keep [0, 1, 2, 3] rfl ?_
    exact al_sts h kk e (k + 1) (by omega)
set_option maxRecDepth 100000 in
theorem al_tg5 (h : LI B S T) (hq : q < 3) (kk : JV (Ev mtab mcode 7) jcL_areAlike (307, [(0, .ref 1), (1, .ref 183), (2, .int 1), (3, .int (nI q)), (4, .int (nI 5))], []) (n, c, s, lw S T) o hf) : ∀ (e k : Nat), k + e = 5 → JV (Ev mtab mcode 7) jcL_areAlike (266, [(0, .ref 1), (1, .ref 183), (2, .int 1), (3, .int (nI q)), (4, .int (nI k))], []) (n, c, s, lw S T) o hf
  | 0, k, hk => by
    have hk : k = 5 := by omega
    subst hk
    refine JV.ild (p2 := 268) rfl rfl rfl ?_
    refine JV.stk (len := 1) (sem := (s_push (.int 5))) (p2 := 269) rfl rfl rfl ?_
    refine JV.brT rfl rfl (by exact nI_le (a := 5) (b := 5) (by omega) (by omega)) ?_
    exact kk
  | e + 1, k, hk => by
    have bd := h.bd
    refine JV.ild (p2 := 268) rfl rfl rfl ?_
    refine JV.stk (len := 1) (sem := (s_push (.int 5))) (p2 := 269) rfl rfl rfl ?_
    refine JV.brF (p2 := 272) rfl rfl rfl (by exact nI_ge (a := k) (b := 5) (by omega) (by omega)) ?_
    refine JV.ild (p2 := 273) rfl rfl rfl ?_
    refine JV.brF (p2 := 276) rfl rfl rfl (by decide) ?_
    refine JV.ald (p2 := 277) rfl rfl rfl ?_
    refine JV.ild (p2 := 278) rfl rfl rfl ?_
    refine JV.ild (p2 := 280) rfl rfl rfl ?_
    refine JV.invI (p2 := 283) rfl rfl rfl lw_o (Nat.le_of_ble_eq_true rfl) rfl (o_tug (by omega) h.k1 bd (tg_of (k := k) (t := q) h.i1 (by rw [h.n3]; exact hq) (by omega) rfl rfl)) ?_
    refine JV.ald (p2 := 284) rfl rfl rfl ?_
    refine JV.stk (len := 1) (sem := (s_push (.int 2))) (p2 := 285) rfl rfl rfl ?_
    refine JV.ild (p2 := 286) rfl rfl rfl ?_
    refine JV.stk (len := 1) (sem := s_isub) (p2 := 287) rfl rfl rfl ?_
    refine JV.ild (p2 := 289) rfl rfl rfl ?_
    refine JV.invI (p2 := 292) rfl rfl rfl lw_p (Nat.le_of_ble_eq_true rfl) rfl (p_tug (by omega) h.k2 bd (h.tg (k := k) (t := q) hq (by omega) (sub_n rfl (by omega)) rfl)) ?_
    refine JV.brF (p2 := 295) rfl rfl rfl (fun z => z rfl) ?_
    refine JV.stk (len := 1) (sem := (s_push (.int 1))) (p2 := 296) rfl rfl rfl ?_
    refine JV.goto rfl ?_
    refine JV.ist (p2 := 301) rfl rfl rfl ?_
    refine JV.iinc (p2 := 304) rfl rfl (nI_1 k) rfl rfl ?_
    refine JV.goto rfl ?_
    exact al_tg5 h hq kk e (k + 1) (by omega)
set_option maxRecDepth 100000 in
theorem al_tgs (h : LI B S T) (kk : JV (Ev mtab mcode 7) jcL_areAlike (313, [(0, .ref 1), (1, .ref 183), (2, .int 1), (3, .int (nI 3))], []) (n, c, s, lw S T) o hf) : ∀ (e k : Nat), k + e = 3 → JV (Ev mtab mcode 7) jcL_areAlike (254, [(0, .ref 1), (1, .ref 183), (2, .int 1), (3, .int (nI k))], []) (n, c, s, lw S T) o hf
  | 0, k, hk => by
    have hk : k = 3 := by omega
    subst hk
    refine JV.ild (p2 := 255) rfl rfl rfl ?_
    refine JV.stk (len := 1) (sem := (s_push (.int 3))) (p2 := 256) rfl rfl rfl ?_
    refine JV.brT rfl rfl (by exact nI_le (a := 3) (b := 3) (by omega) (by omega)) ?_
    exact kk
  | e + 1, k, hk => by
    have bd := h.bd
    refine JV.ild (p2 := 255) rfl rfl rfl ?_
    refine JV.stk (len := 1) (sem := (s_push (.int 3))) (p2 := 256) rfl rfl rfl ?_
    refine JV.brF (p2 := 259) rfl rfl rfl (by exact nI_ge (a := k) (b := 3) (by omega) (by omega)) ?_
    refine JV.ild (p2 := 260) rfl rfl rfl ?_
    refine JV.brF (p2 := 263) rfl rfl rfl (by decide) ?_
    refine JV.stk (len := 1) (sem := (s_push (.int 0))) (p2 := 264) rfl rfl rfl ?_
    refine JV.ist (p2 := 266) rfl rfl rfl ?_
    refine al_tg5 h (q := k) (by omega) ?_ 5 0 rfl
    refine JV.iinc (p2 := 310) rfl rfl (nI_1 k) rfl rfl ?_
    refine JV.goto rfl ?_
    refine JV.keep [0, 1, 2, 3] rfl ?_
    exact al_tgs h kk e (k + 1) (by omega)
set_option maxRecDepth 100000 in
theorem ev_alike (h : LI B S T) (hB : B + 2000000 < 2147483648) : ∃ S' T', LI (B + 1700000) S' T' ∧ S' 1 = S 1 ∧ T' 1 = T 1 ∧ Ev mtab mcode 8 161 [.ref 1, .ref 183] (n, c, s, lw S T) (.inl (some (.int 1))) (n, c, s, lw S' T') := by
  have bd := h.bd
  have na := h.i1.na.2
  obtain ⟨h1, em⟩ := h.mins (B' := B + 117100) (by omega) (by omega)
  have x1 : (x_X6_minutesToAll S).1 1 = S 1 := mins_of.1
  have y1 : (x_X6_minutesToAll T).1 1 = T 1 := mins_of.1
  have i1 := h1.i1
  have i2 := h1.i2
  obtain ⟨S', T', h2, x2, y2, kk⟩ := al_acs (n := n) (c := c) (s := s) (ix ((x_X6_minutesToAll S).1 1 0 0 2)) 0 (B + 117100) _ _ h1 (Nat.zero_add _) (by rw [x1]; omega)
  refine ⟨S', T', h2.mono (by rw [x1]; omega) (by omega), x2.trans x1, y2.trans y1, ?_⟩
  refine jv_mk (m := mL_areAlike) (cd := jcL_areAlike) rfl rfl (Nat.le_of_ble_eq_true rfl) (Or.inr rfl) ?_
  refine JV.ald (p2 := 1) rfl rfl rfl ?_
  refine JV.invI (p2 := 4) rfl rfl rfl lw_o (Nat.le_of_ble_eq_true rfl) rfl (o_minutesToAll (by omega) h.k1 bd) ?_
  refine JV.ald (p2 := 5) rfl rfl rfl ?_
  refine JV.invI (p2 := 8) rfl rfl rfl lw_p (Nat.le_of_ble_eq_true rfl) rfl (p_minutesToAll (by omega) h.k2 bd) ?_
  refine JV.brF (p2 := 11) rfl rfl rfl (fun z => z em.symm) ?_
  refine JV.ald (p2 := 12) rfl rfl rfl ?_
  refine JV.invD (p2 := 15) rfl rfl rfl lw_o (Nat.le_of_ble_eq_true rfl) rfl (o_used (by omega) h1.k1.f1 i1.mi i1.1.2.2.2.2.2.2) ?_
  refine JV.ald (p2 := 16) rfl rfl rfl ?_
  refine JV.invD (p2 := 19) rfl rfl rfl lw_p (Nat.le_of_ble_eq_true rfl) rfl (p_used (by omega) h1.k2.f1 i2.mi i2.1.2.2.2.2.2.2) ?_
  refine JV.stk (len := 1) (sem := (s_dcmp .l)) (p2 := 20) rfl rfl rfl ?_
  refine JV.brF (p2 := 23) rfl rfl rfl (fun z => z (by rw [h1.us.1]; exact dc_eq h1.us.2)) ?_
  refine JV.stk (len := 1) (sem := (s_push (.int 1))) (p2 := 24) rfl rfl rfl ?_
  refine JV.goto rfl ?_
  refine JV.ist (p2 := 29) rfl rfl rfl ?_
  refine JV.stk (len := 1) (sem := (s_push (.int 0))) (p2 := 30) rfl rfl rfl ?_
  refine JV.ist (p2 := 31) rfl rfl rfl ?_
  refine al_16 h1 ?_ 16 0 rfl
  refine JV.stk (len := 1) (sem := (s_push (.int 0))) (p2 := 67) rfl rfl rfl ?_
  refine JV.ist (p2 := 68) rfl rfl rfl ?_
  refine kk _ _ ?_
  refine JV.stk (len := 1) (sem := (s_push (.int 0))) (p2 := 192) rfl rfl rfl ?_
  refine JV.ist (p2 := 193) rfl rfl rfl ?_
  refine al_sts h2 ?_ 4 0 rfl
  refine JV.stk (len := 1) (sem := (s_push (.int 0))) (p2 := 253) rfl rfl rfl ?_
  refine JV.ist (p2 := 254) rfl rfl rfl ?_
  refine al_tgs h2 ?_ 3 0 rfl
  refine JV.ild (p2 := 314) rfl rfl rfl ?_
  exact JV.ret rfl (fun _ => rfl) rfl rfl
end ALK
