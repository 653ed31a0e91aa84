/-! the first object is sound -/
section SOU
variable {n c s B B' : Nat} {S T S' T' : Sys} {o : JO} {hf : JH} {q k : Nat} {v : Int32}
theorem sta_20 {m : Mem} {j : Nat} (hI : IN m) (hj : j < ix (m 0 0 0)) (e : ¬ PF m j) : sta m j 2 = 0 := by
  unfold sta
  rw [if_neg (by decide), if_neg (by decide), if_pos rfl, if_neg (fun z => e ((pf_j hI hj).mp z))]
theorem sta_21 {m : Mem} {j : Nat} (hI : IN m) (hj : j < ix (m 0 0 0)) (e : PF m j) : sta m j 2 = 1 := by
  unfold sta
  rw [if_neg (by decide), if_neg (by decide), if_pos rfl, if_pos ((pf_j hI hj).mpr e)]
theorem sta_nb {m : Mem} {j : Nat} (hI : IN m) (hG : GS m) (hj : j + 1 < ix (m 0 0 0)) : ¬ 2 ≤ sta m (j + 1) 2 + sta m j 2 := by
  by_cases a : PF m j
  · have b : ¬ PF m (j + 1) := fun b => hG.2.1 j hj ⟨a, b⟩
    rw [sta_20 hI hj b, sta_21 hI (by omega) a]
    decide
  · rw [sta_20 hI (by omega) a]
    by_cases b : PF m (j + 1)
    · rw [sta_21 hI hj b]
      decide
    · rw [sta_20 hI hj b]
      decide
set_option maxRecDepth 100000 in
theorem so_1 (h : LI B S T) (kk : JV (Ev mtab mcode 7) jcL_isSound (35, [(0, .ref 1), (1, .int (isum (fun k => x_X1_answer (S 1) (nI (6 + k))) 6)), (2, .int 0), (3, .int 0), (4, .int 0), (5, .int (nI (6 + 6)))], []) (n, c, s, lw S T) o hf) : ∀ (e k : Nat), k + e = 6 → JV (Ev mtab mcode 7) jcL_isSound (13, [(0, .ref 1), (1, .int (isum (fun k => x_X1_answer (S 1) (nI (6 + k))) k)), (2, .int 0), (3, .int 0), (4, .int 0), (5, .int (nI (6 + k)))], []) (n, c, s, lw S T) o hf
  | 0, k, hk => by
    have hk : k = 6 := by omega
    subst hk
    refine JV.ild (p2 := 15) rfl rfl rfl ?_
    refine JV.stk (len := 2) (sem := (s_push (.int 12))) (p2 := 17) rfl rfl rfl ?_
    refine JV.brT rfl rfl (by exact nI_le (a := 12) (b := 6 + 6) (by omega) (by omega)) ?_
    exact kk
  | e + 1, k, hk => by
    have bd := h.bd
    refine JV.ild (p2 := 15) rfl rfl rfl ?_
    refine JV.stk (len := 2) (sem := (s_push (.int 12))) (p2 := 17) rfl rfl rfl ?_
    refine JV.brF (p2 := 20) rfl rfl rfl (by exact nI_ge (a := 6 + k) (b := 12) (by omega) (by omega)) ?_
    refine JV.ild (p2 := 21) rfl rfl rfl ?_
    refine JV.ald (p2 := 22) rfl rfl rfl ?_
    refine JV.ild (p2 := 24) rfl rfl rfl ?_
    refine JV.invI (p2 := 27) rfl rfl rfl lw_o (Nat.le_of_ble_eq_true rfl) rfl (o_value (by omega) h.k1 bd (vl_of (k := 6 + k) (by omega) rfl)) ?_
    refine JV.stk (len := 1) (sem := s_iadd) (p2 := 28) rfl rfl rfl ?_
    refine JV.top (show _ = (isum (fun k => x_X1_answer (S 1) (nI (6 + k))) (k + 1)) from rfl) ?_
    refine JV.ist (p2 := 29) rfl rfl rfl ?_
    refine JV.iinc (p2 := 32) rfl rfl (nI_1 (6 + k)) rfl rfl ?_
    refine JV.goto rfl ?_
    exact so_1 h kk e (k + 1) (by omega)
set_option maxRecDepth 100000 in
theorem so_2b (h : LI B S T) (hk : k < 4) (kk : JV (Ev mtab mcode 7) jcL_isSound (54, [(0, .ref 1), (2, .int 0), (3, .int (isum (fun j => S 1 1 j 2) (k + 1))), (4, .int 0), (5, .int 1), (6, .int (nI (k + 1)))], []) (n, c, s, lw S T) o hf) : JV (Ev mtab mcode 7) jcL_isSound (147, [(0, .ref 1), (2, .int 0), (3, .int (isum (fun j => S 1 1 j 2) (k + 1))), (4, .int 0), (5, .int 1), (6, .int (nI k)), (7, .int v)], []) (n, c, s, lw S T) o hf := by
  have bd := h.bd
  have hk4 : k < ix (S 1 0 0 0) := by rw [h.n4]; exact hk
  refine JV.ild (p2 := 149) rfl rfl rfl ?_
  refine JV.brF (p2 := 152) rfl rfl rfl (by decide) ?_
  refine JV.ild (p2 := 154) rfl rfl rfl ?_
  by_cases g : k = 0
  · refine JV.brT rfl rfl (by rw [g]; rfl) ?_
    refine JV.stk (len := 1) (sem := (s_push (.int 1))) (p2 := 179) rfl rfl rfl ?_
    refine JV.goto rfl ?_
    refine JV.ist (p2 := 185) rfl rfl rfl ?_
    refine JV.iinc (p2 := 188) rfl rfl (nI_1 k) rfl rfl ?_
    refine JV.goto rfl ?_
    refine JV.keep [0, 2, 3, 4, 5, 6] rfl ?_
    exact kk
  · refine JV.brF (p2 := 157) rfl rfl rfl (fun z => g (nI_inj (a := k) (b := 0) (by omega) (by decide) z)) ?_
    refine JV.ald (p2 := 158) rfl rfl rfl ?_
    refine JV.ild (p2 := 160) rfl rfl rfl ?_
    refine JV.stk (len := 1) (sem := (s_push (.int 2))) (p2 := 161) rfl rfl rfl ?_
    refine JV.invI (p2 := 164) rfl rfl rfl lw_o (Nat.le_of_ble_eq_true rfl) rfl (o_stand (by omega) h.k1 bd (st_of (k := 2) (j := k) h.i1 hk4 (by decide) rfl rfl)) ?_
    refine JV.ald (p2 := 165) rfl rfl rfl ?_
    refine JV.ild (p2 := 167) rfl rfl rfl ?_
    refine JV.stk (len := 1) (sem := (s_push (.int 1))) (p2 := 168) rfl rfl rfl ?_
    refine JV.stk (len := 1) (sem := s_isub) (p2 := 169) rfl rfl rfl ?_
    refine JV.stk (len := 1) (sem := (s_push (.int 2))) (p2 := 170) rfl rfl rfl ?_
    refine JV.invI (p2 := 173) rfl rfl rfl lw_o (Nat.le_of_ble_eq_true rfl) rfl (o_stand (by omega) h.k1 bd (st_of (k := 2) (j := k - 1) h.i1 (by omega) (by decide) (pk_sub (b := 1) (by omega)) rfl)) ?_
    refine JV.stk (len := 1) (sem := s_iadd) (p2 := 174) rfl rfl rfl ?_
    refine JV.stk (len := 1) (sem := (s_push (.int 2))) (p2 := 175) rfl rfl rfl ?_
    refine JV.brF (p2 := 178) rfl rfl rfl (by obtain ⟨j, rfl⟩ : ∃ j, k = j + 1 := ⟨k - 1, by omega⟩; exact sta_nb h.i1 h.2.2.1.1 hk4) ?_
    refine JV.stk (len := 1) (sem := (s_push (.int 1))) (p2 := 179) rfl rfl rfl ?_
    refine JV.goto rfl ?_
    refine JV.ist (p2 := 185) rfl rfl rfl ?_
    refine JV.iinc (p2 := 188) rfl rfl (nI_1 k) rfl rfl ?_
    refine JV.goto rfl ?_
    refine JV.keep [0, 2, 3, 4, 5, 6] rfl ?_
    exact kk
set_option maxRecDepth 100000 in
theorem so_2 (h : LI B S T) (kk : JV (Ev mtab mcode 7) jcL_isSound (191, [(0, .ref 1), (2, .int 0), (3, .int (isum (fun j => S 1 1 j 2) 4)), (4, .int 0), (5, .int 1), (6, .int (nI 4))], []) (n, c, s, lw S T) o hf) : ∀ (e k : Nat), k + e = 4 → JV (Ev mtab mcode 7) jcL_isSound (54, [(0, .ref 1), (2, .int 0), (3, .int (isum (fun j => S 1 1 j 2) k)), (4, .int 0), (5, .int 1), (6, .int (nI k))], []) (n, c, s, lw S T) o hf
  | 0, k, hk => by
    have hk : k = 4 := by omega
    subst hk
    refine JV.ild (p2 := 56) rfl rfl rfl ?_
    refine JV.stk (len := 1) (sem := (s_push (.int 4))) (p2 := 57) rfl rfl rfl ?_
    refine JV.brT rfl rfl (by exact nI_le (a := 4) (b := 4) (by omega) (by omega)) ?_
    exact kk
  | e + 1, k, hk => by
    have bd := h.bd
    have na := h.i1.na.2
    have hk4 : k < ix (S 1 0 0 0) := by rw [h.n4]; omega
    have ih := so_2 h kk e (k + 1) (by omega)
    refine JV.ild (p2 := 56) rfl rfl rfl ?_
    refine JV.stk (len := 1) (sem := (s_push (.int 4))) (p2 := 57) rfl rfl rfl ?_
    refine JV.brF (p2 := 60) rfl rfl rfl (by exact nI_ge (a := k) (b := 4) (by omega) (by omega)) ?_
    refine JV.ald (p2 := 61) rfl rfl rfl ?_
    refine JV.ild (p2 := 63) rfl rfl rfl ?_
    refine JV.stk (len := 1) (sem := (s_push (.int 1))) (p2 := 64) rfl rfl rfl ?_
    refine JV.invI (p2 := 67) rfl rfl rfl lw_o (Nat.le_of_ble_eq_true rfl) rfl (o_stand (by omega) h.k1 bd (st_of (k := 1) (j := k) h.i1 hk4 (by decide) rfl rfl)) ?_
    refine JV.top (show sta (S 1) k 1 = S 1 1 k 1 from rfl) ?_
    refine JV.ist (p2 := 69) rfl rfl rfl ?_
    refine JV.ild (p2 := 70) rfl rfl rfl ?_
    refine JV.ald (p2 := 71) rfl rfl rfl ?_
    refine JV.ild (p2 := 73) rfl rfl rfl ?_
    refine JV.stk (len := 1) (sem := (s_push (.int 3))) (p2 := 74) rfl rfl rfl ?_
    refine JV.invI (p2 := 77) rfl rfl rfl lw_o (Nat.le_of_ble_eq_true rfl) rfl (o_stand (by omega) h.k1 bd (st_of (k := 3) (j := k) h.i1 hk4 (by decide) rfl rfl)) ?_
    refine JV.top (show sta (S 1) k 3 = S 1 1 k 2 from rfl) ?_
    refine JV.stk (len := 1) (sem := s_iadd) (p2 := 78) rfl rfl rfl ?_
    refine JV.top (show _ = (isum (fun j => S 1 1 j 2) (k + 1)) from rfl) ?_
    refine JV.ist (p2 := 79) rfl rfl rfl ?_
    refine JV.ild (p2 := 81) rfl rfl rfl ?_
    refine JV.brF (p2 := 84) rfl rfl rfl (by decide) ?_
    refine JV.ild (p2 := 86) rfl rfl rfl ?_
    rcases h.i1.st hk4 with g | ⟨p, hp, g⟩
    · refine JV.brT rfl rfl (by rw [g]; decide) ?_
      refine JV.ald (p2 := 120) rfl rfl rfl ?_
      refine JV.ild (p2 := 122) rfl rfl rfl ?_
      refine JV.stk (len := 1) (sem := (s_push (.int 2))) (p2 := 123) rfl rfl rfl ?_
      refine JV.invI (p2 := 126) rfl rfl rfl lw_o (Nat.le_of_ble_eq_true rfl) rfl (o_stand (by omega) h.k1 bd (st_of (k := 2) (j := k) h.i1 hk4 (by decide) rfl rfl)) ?_
      refine JV.top (sta_20 h.i1 hk4 (fun z => z.1 g)) ?_
      refine JV.brT rfl rfl (rfl) ?_
      refine JV.stk (len := 1) (sem := (s_push (.int 1))) (p2 := 141) rfl rfl rfl ?_
      refine JV.goto rfl ?_
      refine JV.ist (p2 := 147) rfl rfl rfl ?_
      exact so_2b h (by omega) ih
    · refine JV.brF (p2 := 89) rfl rfl rfl (by rw [g]; exact nI_pos (by omega)) ?_
      refine JV.ald (p2 := 90) rfl rfl rfl ?_
      refine JV.ild (p2 := 92) rfl rfl rfl ?_
      refine JV.stk (len := 2) (sem := (s_push (.int 6))) (p2 := 94) rfl rfl rfl ?_
      refine JV.invI (p2 := 97) rfl rfl rfl lw_o (Nat.le_of_ble_eq_true rfl) rfl (o_aircraft (by omega) h.k1 bd (ac_of (k := 6) h.i1 hp (by decide) g rfl)) ?_
      refine JV.ild (p2 := 99) rfl rfl rfl ?_
      refine JV.brF (p2 := 102) rfl rfl rfl (fun z => z ((h.i1.2.1.2.1 k p hk4 hp).mpr g).2) ?_
      refine JV.ald (p2 := 103) rfl rfl rfl ?_
      refine JV.ild (p2 := 105) rfl rfl rfl ?_
      refine JV.stk (len := 1) (sem := (s_push (.int 0))) (p2 := 106) rfl rfl rfl ?_
      refine JV.invI (p2 := 109) rfl rfl rfl lw_o (Nat.le_of_ble_eq_true rfl) rfl (o_aircraft (by omega) h.k1 bd (ac_of (k := 0) h.i1 hp (by decide) g rfl)) ?_
      refine JV.ald (p2 := 110) rfl rfl rfl ?_
      refine JV.ild (p2 := 112) rfl rfl rfl ?_
      refine JV.stk (len := 1) (sem := (s_push (.int 0))) (p2 := 113) rfl rfl rfl ?_
      refine JV.invI (p2 := 116) rfl rfl rfl lw_o (Nat.le_of_ble_eq_true rfl) rfl (o_stand (by omega) h.k1 bd (st_of (k := 0) (j := k) h.i1 hk4 (by decide) rfl rfl)) ?_
      refine JV.brF (p2 := 119) rfl rfl rfl (h.2.2.1.1.1 k p hk4 hp ((h.i1.2.1.2.1 k p hk4 hp).mpr g).1 ((h.i1.2.1.2.1 k p hk4 hp).mpr g).2) ?_
      refine JV.ald (p2 := 120) rfl rfl rfl ?_
      refine JV.ild (p2 := 122) rfl rfl rfl ?_
      refine JV.stk (len := 1) (sem := (s_push (.int 2))) (p2 := 123) rfl rfl rfl ?_
      refine JV.invI (p2 := 126) rfl rfl rfl lw_o (Nat.le_of_ble_eq_true rfl) rfl (o_stand (by omega) h.k1 bd (st_of (k := 2) (j := k) h.i1 hk4 (by decide) rfl rfl)) ?_
      by_cases f : PF (S 1) k
      · refine JV.top (sta_21 h.i1 hk4 f) ?_
        refine JV.brF (p2 := 129) rfl rfl rfl (by decide) ?_
        refine JV.ald (p2 := 130) rfl rfl rfl ?_
        refine JV.ild (p2 := 132) rfl rfl rfl ?_
        refine JV.stk (len := 1) (sem := (s_push (.int 5))) (p2 := 133) rfl rfl rfl ?_
        refine JV.invI (p2 := 136) rfl rfl rfl lw_o (Nat.le_of_ble_eq_true rfl) rfl (o_aircraft (by omega) h.k1 bd (ac_of (k := 5) h.i1 hp (by decide) g rfl)) ?_
        refine JV.stk (len := 1) (sem := (s_push (.int 4))) (p2 := 137) rfl rfl rfl ?_
        refine JV.brF (p2 := 140) rfl rfl rfl (fun z => z (by have f2 := f.2; rw [g, ix_nI (by omega)] at f2; exact f2)) ?_
        refine JV.stk (len := 1) (sem := (s_push (.int 1))) (p2 := 141) rfl rfl rfl ?_
        refine JV.goto rfl ?_
        refine JV.ist (p2 := 147) rfl rfl rfl ?_
        exact so_2b h (by omega) ih
      · refine JV.top (sta_20 h.i1 hk4 f) ?_
        refine JV.brT rfl rfl (rfl) ?_
        refine JV.stk (len := 1) (sem := (s_push (.int 1))) (p2 := 141) rfl rfl rfl ?_
        refine JV.goto rfl ?_
        refine JV.ist (p2 := 147) rfl rfl rfl ?_
        exact so_2b h (by omega) ih
set_option maxRecDepth 100000 in
theorem so_3 (h : LI B S T) (kk : JV (Ev mtab mcode 7) jcL_isSound (281, [(0, .ref 1), (2, .int (isum (fun p => S 1 3 p 8) (ix (S 1 0 0 2)))), (3, .int (isum (fun j => S 1 1 j 2) 4)), (4, .int (isum (fun p => S 1 3 p 9) (ix (S 1 0 0 2)))), (5, .int 1), (6, .int (nI (ix (S 1 0 0 2))))], []) (n, c, s, lw S T) o hf) : ∀ (e q : Nat), q + e = ix (S 1 0 0 2) → JV (Ev mtab mcode 7) jcL_isSound (194, [(0, .ref 1), (2, .int (isum (fun p => S 1 3 p 8) q)), (3, .int (isum (fun j => S 1 1 j 2) 4)), (4, .int (isum (fun p => S 1 3 p 9) q)), (5, .int 1), (6, .int (nI q))], []) (n, c, s, lw S T) o hf
  | 0, q, hq => by
    have bd := h.bd
    have nb := h.i1.na.2
    have nm := h.i1.na.1
    have hq : q = ix (S 1 0 0 2) := by omega
    subst hq
    refine JV.ild (p2 := 196) rfl rfl rfl ?_
    refine JV.ald (p2 := 197) rfl rfl rfl ?_
    refine JV.stk (len := 1) (sem := (s_push (.int 2))) (p2 := 198) rfl rfl rfl ?_
    refine JV.invI (p2 := 201) rfl rfl rfl lw_o (Nat.le_of_ble_eq_true rfl) rfl (o_value (by omega) h.k1 bd (vl_of (k := 2) (by decide) rfl)) ?_
    refine JV.top (an_2) ?_
    refine JV.brT rfl rfl (Int32.not_lt.mp (fun z => nI_nlt (a := ix (S 1 0 0 2)) (b := ix (S 1 0 0 2)) (Nat.le_refl _) (by omega) (nm ▸ z))) ?_
    exact kk
  | e + 1, q, hq => by
    have bd := h.bd
    have nb := h.i1.na.2
    have nm := h.i1.na.1
    have hl : q < ix (S 1 0 0 2) := by omega
    have gd := h.2.2.1.1.2.2.1 q hl
    refine JV.ild (p2 := 196) rfl rfl rfl ?_
    refine JV.ald (p2 := 197) rfl rfl rfl ?_
    refine JV.stk (len := 1) (sem := (s_push (.int 2))) (p2 := 198) rfl rfl rfl ?_
    refine JV.invI (p2 := 201) rfl rfl rfl lw_o (Nat.le_of_ble_eq_true rfl) rfl (o_value (by omega) h.k1 bd (vl_of (k := 2) (by decide) rfl)) ?_
    refine JV.top (an_2) ?_
    refine JV.brF (p2 := 204) rfl rfl rfl (fun z => Int32.not_lt.mpr z (by rw [nm]; exact nI_lt hl (by omega))) ?_
    refine JV.ild (p2 := 205) rfl rfl rfl ?_
    refine JV.ald (p2 := 206) rfl rfl rfl ?_
    refine JV.ild (p2 := 208) rfl rfl rfl ?_
    refine JV.stk (len := 2) (sem := (s_push (.int 8))) (p2 := 210) rfl rfl rfl ?_
    refine JV.invI (p2 := 213) rfl rfl rfl lw_o (Nat.le_of_ble_eq_true rfl) rfl (o_aircraft (by omega) h.k1 bd (ac_of (k := 8) h.i1 hl (by decide) rfl rfl)) ?_
    refine JV.stk (len := 1) (sem := s_iadd) (p2 := 214) rfl rfl rfl ?_
    refine JV.top (show _ = (isum (fun p => S 1 3 p 8) (q + 1)) from rfl) ?_
    refine JV.ist (p2 := 215) rfl rfl rfl ?_
    refine JV.ild (p2 := 217) rfl rfl rfl ?_
    refine JV.ald (p2 := 218) rfl rfl rfl ?_
    refine JV.ild (p2 := 220) rfl rfl rfl ?_
    refine JV.stk (len := 2) (sem := (s_push (.int 9))) (p2 := 222) rfl rfl rfl ?_
    refine JV.invI (p2 := 225) rfl rfl rfl lw_o (Nat.le_of_ble_eq_true rfl) rfl (o_aircraft (by omega) h.k1 bd (ac_of (k := 9) h.i1 hl (by decide) rfl rfl)) ?_
    refine JV.stk (len := 1) (sem := s_iadd) (p2 := 226) rfl rfl rfl ?_
    refine JV.top (show _ = (isum (fun p => S 1 3 p 9) (q + 1)) from rfl) ?_
    refine JV.ist (p2 := 228) rfl rfl rfl ?_
    refine JV.ild (p2 := 230) rfl rfl rfl ?_
    refine JV.brF (p2 := 233) rfl rfl rfl (by decide) ?_
    refine JV.ald (p2 := 234) rfl rfl rfl ?_
    refine JV.ild (p2 := 236) rfl rfl rfl ?_
    refine JV.stk (len := 2) (sem := (s_push (.int 7))) (p2 := 238) rfl rfl rfl ?_
    refine JV.invI (p2 := 241) rfl rfl rfl lw_o (Nat.le_of_ble_eq_true rfl) rfl (o_aircraft (by omega) h.k1 bd (ac_of (k := 7) h.i1 hl (by decide) rfl rfl)) ?_
    by_cases g : S 1 3 q 5 = 4 ∨ S 1 3 q 5 = 5
    · refine JV.brF (p2 := 244) rfl rfl rfl (fun z => by rw [((gd.1 g)).1] at z; exact nI_pos (by have := (gd.1 g).2; omega) z) ?_
      refine JV.stk (len := 1) (sem := (s_push (.int 1))) (p2 := 245) rfl rfl rfl ?_
      refine JV.goto rfl ?_
      refine JV.ald (p2 := 250) rfl rfl rfl ?_
      refine JV.ild (p2 := 252) rfl rfl rfl ?_
      refine JV.stk (len := 1) (sem := (s_push (.int 5))) (p2 := 253) rfl rfl rfl ?_
      refine JV.invI (p2 := 256) rfl rfl rfl lw_o (Nat.le_of_ble_eq_true rfl) rfl (o_aircraft (by omega) h.k1 bd (ac_of (k := 5) h.i1 hl (by decide) rfl rfl)) ?_
      refine JV.stk (len := 1) (sem := (s_push (.int 3))) (p2 := 257) rfl rfl rfl ?_
      refine JV.brF (p2 := 260) rfl rfl rfl (by rcases g with e | e <;> rw [e] <;> decide) ?_
      refine JV.stk (len := 1) (sem := (s_push (.int 1))) (p2 := 261) rfl rfl rfl ?_
      refine JV.goto rfl ?_
      refine JV.brF (p2 := 268) rfl rfl rfl (fun z => z rfl) ?_
      refine JV.stk (len := 1) (sem := (s_push (.int 1))) (p2 := 269) rfl rfl rfl ?_
      refine JV.goto rfl ?_
      refine JV.ist (p2 := 275) rfl rfl rfl ?_
      refine JV.iinc (p2 := 278) rfl rfl (nI_1 q) rfl rfl ?_
      refine JV.goto rfl ?_
      exact so_3 h kk e (q + 1) (by omega)
    · refine JV.brT rfl rfl (by rw [gd.2 g]; decide) ?_
      refine JV.stk (len := 1) (sem := (s_push (.int 0))) (p2 := 249) rfl rfl rfl ?_
      refine JV.ald (p2 := 250) rfl rfl rfl ?_
      refine JV.ild (p2 := 252) rfl rfl rfl ?_
      refine JV.stk (len := 1) (sem := (s_push (.int 5))) (p2 := 253) rfl rfl rfl ?_
      refine JV.invI (p2 := 256) rfl rfl rfl lw_o (Nat.le_of_ble_eq_true rfl) rfl (o_aircraft (by omega) h.k1 bd (ac_of (k := 5) h.i1 hl (by decide) rfl rfl)) ?_
      refine JV.stk (len := 1) (sem := (s_push (.int 3))) (p2 := 257) rfl rfl rfl ?_
      refine JV.brT rfl rfl (by rcases pl_6 h.i1 hl with e | e | e | e | e | e <;> first | (rw [e]; decide) | exact absurd (Or.inl e) g | exact absurd (Or.inr e) g) ?_
      refine JV.stk (len := 1) (sem := (s_push (.int 0))) (p2 := 265) rfl rfl rfl ?_
      refine JV.brF (p2 := 268) rfl rfl rfl (fun z => z rfl) ?_
      refine JV.stk (len := 1) (sem := (s_push (.int 1))) (p2 := 269) rfl rfl rfl ?_
      refine JV.goto rfl ?_
      refine JV.ist (p2 := 275) rfl rfl rfl ?_
      refine JV.iinc (p2 := 278) rfl rfl (nI_1 q) rfl rfl ?_
      refine JV.goto rfl ?_
      exact so_3 h kk e (q + 1) (by omega)
set_option maxRecDepth 100000 in
theorem so_4 (h : LI B S T) (kk : JV (Ev mtab mcode 7) jcL_isSound (362, [(0, .ref 1), (2, .int (isum (fun p => S 1 3 p 8) (ix (S 1 0 0 2)))), (3, .int (isum (fun j => S 1 1 j 2) 4)), (4, .int (isum (fun p => S 1 3 p 9) (ix (S 1 0 0 2)))), (5, .int 1), (6, .int (nI 3))], []) (n, c, s, lw S T) o hf) : ∀ (e k : Nat), k + e = 3 → JV (Ev mtab mcode 7) jcL_isSound (284, [(0, .ref 1), (2, .int (isum (fun p => S 1 3 p 8) (ix (S 1 0 0 2)))), (3, .int (isum (fun j => S 1 1 j 2) 4)), (4, .int (isum (fun p => S 1 3 p 9) (ix (S 1 0 0 2)))), (5, .int 1), (6, .int (nI k))], []) (n, c, s, lw S T) o hf
  | 0, k, hk => by
    have hk : k = 3 := by omega
    subst hk
    refine JV.ild (p2 := 286) rfl rfl rfl ?_
    refine JV.stk (len := 1) (sem := (s_push (.int 3))) (p2 := 287) rfl rfl rfl ?_
    refine JV.brT rfl rfl (by exact nI_le (a := 3) (b := 3) (by omega) (by omega)) ?_
    exact kk
  | e + 1, k, hk => by
    have bd := h.bd
    have na := h.i1.na.2
    have hk3 : k < ix (S 1 0 0 1) := by rw [h.n3]; omega
    have gt := h.2.2.1.1.2.2.2.1 k hk3
    have lf : ¬ S 1 2 k 1 = -1 → ¬ S 1 2 k 2 ≤ 0 := fun z y => by
      have it := (h.i1.2.2.1 k hk3).2
      have n0 := it.2 z
      have v := it.1
      have n1 : ix (S 1 2 k 2) ≠ 0 := fun x => n0 (by rw [v.1, x]; rfl)
      have b := v.2
      rw [v.1] at y
      exact Int32.not_lt.mpr y (nI_lt (a := 0) (b := ix (S 1 2 k 2)) (by omega) (by omega))
    refine JV.ild (p2 := 286) rfl rfl rfl ?_
    refine JV.stk (len := 1) (sem := (s_push (.int 3))) (p2 := 287) rfl rfl rfl ?_
    refine JV.brF (p2 := 290) rfl rfl rfl (by exact nI_ge (a := k) (b := 3) (by omega) (by omega)) ?_
    refine JV.ald (p2 := 291) rfl rfl rfl ?_
    refine JV.ild (p2 := 293) rfl rfl rfl ?_
    refine JV.stk (len := 1) (sem := (s_push (.int 1))) (p2 := 294) rfl rfl rfl ?_
    refine JV.invI (p2 := 297) rfl rfl rfl lw_o (Nat.le_of_ble_eq_true rfl) rfl (o_tug (by omega) h.k1 bd (tg_of (k := 1) (t := k) h.i1 hk3 (by decide) rfl rfl)) ?_
    refine JV.ist (p2 := 299) rfl rfl rfl ?_
    refine JV.ild (p2 := 301) rfl rfl rfl ?_
    refine JV.brF (p2 := 304) rfl rfl rfl (by decide) ?_
    refine JV.ild (p2 := 306) rfl rfl rfl ?_
    rcases (h.i1.2.2.1 k hk3).1 with g | ⟨p, hp, g⟩
    · refine JV.brF (p2 := 309) rfl rfl rfl (by rw [g]; decide) ?_
      refine JV.ald (p2 := 310) rfl rfl rfl ?_
      refine JV.ild (p2 := 312) rfl rfl rfl ?_
      refine JV.stk (len := 1) (sem := (s_push (.int 2))) (p2 := 313) rfl rfl rfl ?_
      refine JV.invI (p2 := 316) rfl rfl rfl lw_o (Nat.le_of_ble_eq_true rfl) rfl (o_tug (by omega) h.k1 bd (tg_of (k := 2) (t := k) h.i1 hk3 (by decide) rfl rfl)) ?_
      refine JV.brF (p2 := 319) rfl rfl rfl (fun z => z (gt.1 g)) ?_
      refine JV.goto rfl ?_
      refine JV.stk (len := 1) (sem := (s_push (.int 1))) (p2 := 350) rfl rfl rfl ?_
      refine JV.goto rfl ?_
      refine JV.ist (p2 := 356) rfl rfl rfl ?_
      refine JV.iinc (p2 := 359) rfl rfl (nI_1 k) rfl rfl ?_
      refine JV.goto rfl ?_
      refine JV.keep [0, 2, 3, 4, 5, 6] rfl ?_
      exact so_4 h kk e (k + 1) (by omega)
    · refine JV.brT rfl rfl (by rw [g]; exact Int32.not_lt.mp (nI_pos (by omega))) ?_
      refine JV.ald (p2 := 323) rfl rfl rfl ?_
      refine JV.ild (p2 := 325) rfl rfl rfl ?_
      refine JV.stk (len := 1) (sem := (s_push (.int 2))) (p2 := 326) rfl rfl rfl ?_
      refine JV.invI (p2 := 329) rfl rfl rfl lw_o (Nat.le_of_ble_eq_true rfl) rfl (o_tug (by omega) h.k1 bd (tg_of (k := 2) (t := k) h.i1 hk3 (by decide) rfl rfl)) ?_
      refine JV.brF (p2 := 332) rfl rfl rfl (fun z => lf (by rw [g]; exact nI_n1 (by omega)) z) ?_
      refine JV.ald (p2 := 333) rfl rfl rfl ?_
      refine JV.ild (p2 := 335) rfl rfl rfl ?_
      refine JV.stk (len := 1) (sem := (s_push (.int 0))) (p2 := 336) rfl rfl rfl ?_
      refine JV.invI (p2 := 339) rfl rfl rfl lw_o (Nat.le_of_ble_eq_true rfl) rfl (o_tug (by omega) h.k1 bd (tg_of (k := 0) (t := k) h.i1 hk3 (by decide) rfl rfl)) ?_
      refine JV.ald (p2 := 340) rfl rfl rfl ?_
      refine JV.ild (p2 := 342) rfl rfl rfl ?_
      refine JV.stk (len := 1) (sem := (s_push (.int 1))) (p2 := 343) rfl rfl rfl ?_
      refine JV.invI (p2 := 346) rfl rfl rfl lw_o (Nat.le_of_ble_eq_true rfl) rfl (o_aircraft (by omega) h.k1 bd (ac_of (k := 1) h.i1 hp (by decide) g rfl)) ?_
      refine JV.brF (p2 := 349) rfl rfl rfl ((gt.2 p hp g).2) ?_
      refine JV.stk (len := 1) (sem := (s_push (.int 1))) (p2 := 350) rfl rfl rfl ?_
      refine JV.goto rfl ?_
      refine JV.ist (p2 := 356) rfl rfl rfl ?_
      refine JV.iinc (p2 := 359) rfl rfl (nI_1 k) rfl rfl ?_
      refine JV.goto rfl ?_
      refine JV.keep [0, 2, 3, 4, 5, 6] rfl ?_
      exact so_4 h kk e (k + 1) (by omega)
set_option maxRecDepth 100000 in
theorem ev_sound (h : LI B S T) : Ev mtab mcode 8 162 [.ref 1] (n, c, s, lw S T) (.inl (some (.int 1))) (n, c, s, lw S T) := by
  have bd := h.bd
  refine jv_mk (m := mL_isSound) (cd := jcL_isSound) rfl rfl (Nat.le_of_ble_eq_true rfl) (Or.inr rfl) ?_
  refine JV.stk (len := 1) (sem := (s_push (.int 0))) (p2 := 1) rfl rfl rfl ?_
  refine JV.ist (p2 := 2) rfl rfl rfl ?_
  refine JV.stk (len := 1) (sem := (s_push (.int 0))) (p2 := 3) rfl rfl rfl ?_
  refine JV.ist (p2 := 4) rfl rfl rfl ?_
  refine JV.stk (len := 1) (sem := (s_push (.int 0))) (p2 := 5) rfl rfl rfl ?_
  refine JV.ist (p2 := 6) rfl rfl rfl ?_
  refine JV.stk (len := 1) (sem := (s_push (.int 0))) (p2 := 7) rfl rfl rfl ?_
  refine JV.ist (p2 := 9) rfl rfl rfl ?_
  refine JV.stk (len := 2) (sem := (s_push (.int 6))) (p2 := 11) rfl rfl rfl ?_
  refine JV.ist (p2 := 13) rfl rfl rfl ?_
  refine so_1 h ?_ 6 0 rfl
  refine JV.ild (p2 := 36) rfl rfl rfl ?_
  refine JV.ald (p2 := 37) rfl rfl rfl ?_
  refine JV.stk (len := 1) (sem := (s_push (.int 2))) (p2 := 38) rfl rfl rfl ?_
  refine JV.invI (p2 := 41) rfl rfl rfl lw_o (Nat.le_of_ble_eq_true rfl) rfl (o_value (by omega) h.k1 bd (vl_of (k := 2) (by decide) rfl)) ?_
  refine JV.top (an_2) ?_
  refine JV.brF (p2 := 44) rfl rfl rfl (fun z => z (st_sum h.i1)) ?_
  refine JV.stk (len := 1) (sem := (s_push (.int 1))) (p2 := 45) rfl rfl rfl ?_
  refine JV.goto rfl ?_
  refine JV.ist (p2 := 51) rfl rfl rfl ?_
  refine JV.stk (len := 1) (sem := (s_push (.int 0))) (p2 := 52) rfl rfl rfl ?_
  refine JV.ist (p2 := 54) rfl rfl rfl ?_
  refine JV.keep [0, 2, 3, 4, 5, 6] rfl ?_
  refine so_2 h ?_ 4 0 rfl
  refine JV.stk (len := 1) (sem := (s_push (.int 0))) (p2 := 192) rfl rfl rfl ?_
  refine JV.ist (p2 := 194) rfl rfl rfl ?_
  refine so_3 h ?_ (ix (S 1 0 0 2)) 0 (Nat.zero_add _)
  refine JV.stk (len := 1) (sem := (s_push (.int 0))) (p2 := 282) rfl rfl rfl ?_
  refine JV.ist (p2 := 284) rfl rfl rfl ?_
  refine so_4 h ?_ 3 0 rfl
  refine JV.ild (p2 := 364) rfl rfl rfl ?_
  refine JV.brF (p2 := 367) rfl rfl rfl (by decide) ?_
  refine JV.ild (p2 := 368) rfl rfl rfl ?_
  refine JV.ild (p2 := 369) rfl rfl rfl ?_
  refine JV.brF (p2 := 372) rfl rfl rfl (fun z => z (by have sm := h.2.2.1.2.1; unfold SM at sm; rw [h.n4] at sm; exact sm)) ?_
  refine JV.ild (p2 := 374) rfl rfl rfl ?_
  refine JV.ald (p2 := 375) rfl rfl rfl ?_
  refine JV.stk (len := 2) (sem := (s_push (.int 14))) (p2 := 377) rfl rfl rfl ?_
  refine JV.invI (p2 := 380) rfl rfl rfl lw_o (Nat.le_of_ble_eq_true rfl) rfl (o_value (by omega) h.k1 bd (vl_of (k := 14) (by decide) rfl)) ?_
  refine JV.top (an_14) ?_
  refine JV.brF (p2 := 383) rfl rfl rfl (fun z => z rfl) ?_
  refine JV.stk (len := 1) (sem := (s_push (.int 1))) (p2 := 384) rfl rfl rfl ?_
  refine JV.goto rfl ?_
  exact JV.ret rfl (fun _ => rfl) rfl rfl
end SOU
