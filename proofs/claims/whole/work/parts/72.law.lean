/-! the law's cases -/
def AG (ct : List (String × Int32)) (r : Int32 ⊕ String) (q : Mem × Int32) : Prop := (∃ v, r = .inl v ∧ q.1 0 0 1 = 0 ∧ q.2 = v) ∨ ∃ E, r = .inr E ∧ (E, q.1 0 0 1) ∈ ct ∧ ¬ q.1 0 0 1 = 0
def GD (B : Nat) (S : Sys) (μ : Mem) : Prop := (SK B S ∧ B + 117000 < 2147483648) ∧ (MK μ ∧ VN 4 (μ 0 0 0) ∧ VN 90 (μ 0 0 2)) ∧ (VN 13000 (S 1 0 0 3) ∧ ¬ S 1 0 0 0 = 0) ∧ (∀ j, j < 6 → VN 13000 (μ 1 0 (8 + 2 * j + 1))) ∧ VN 13000 (μ 1 0 3) ∧ ¬ μ 1 0 0 = 0
theorem AG.k {ct : List (String × Int32)} {r : Int32 ⊕ String} {q : Mem × Int32} (h : AG ct r q) : (∃ v, r = .inl v ∧ q.1 0 0 1 = 0) ∨ ∃ E, r = .inr E ∧ (E, q.1 0 0 1) ∈ ct := h.elim (fun ⟨v, h1, h2, _⟩ => Or.inl ⟨v, h1, h2⟩) (fun ⟨E, h1, h2, _⟩ => Or.inr ⟨E, h1, h2⟩)
theorem th_eq {m : Mem} : x_X7_thrown m = m 0 0 1 := by
  rw [x_X7_thrown_eq]
  rfl
theorem lc_eq0 {x y : Int64} (h : x = y) : lg_cmp x y = 0 := by
  subst h
  have h1 := (not_congr (lg_cmp_lt x x)).mpr Int64.lt_irrefl
  have h2 := (not_congr (lg_cmp_gt x x)).mpr Int64.lt_irrefl
  exact Int32.le_antisymm (Int32.not_lt.mp h2) (Int32.not_lt.mp h1)
section JVD2
variable {E : JE} {cd : List (Nat × JA)} {pc p2 n c s : Nat} {l : List (Nat × Value)} {st r : List Value} {hf : JH} {o : JO} {M M1 : JM}
theorem JV.invL {μ k ci q : Nat} {fs : List Value} {as : List Value} {x : Int64} (hl : jlk cd pc = some (a_inv μ k ci [])) (hst : st.drop k = .ref q :: r) (has : (st.take k).reverse = as) (hM : M q = .inr (ci, fs)) (hr : jcat r ≤ 8) (hp : pc + 3 = p2) (hE : E μ (.ref q :: as) (n, c, s, M) (.inl (some (.long x))) (n, c, s, M1)) (kk : JV E cd (p2, l, .long x :: r) (n, c, s, M1) o hf) : JV E cd (pc, l, st) (n, c, s, M) o hf := JV.inv hl hst has hM hr hp hE kk
theorem JV.invD {μ k ci q : Nat} {fs : List Value} {as : List Value} {x : UInt64} (hl : jlk cd pc = some (a_inv μ k ci [])) (hst : st.drop k = .ref q :: r) (has : (st.take k).reverse = as) (hM : M q = .inr (ci, fs)) (hr : jcat r ≤ 8) (hp : pc + 3 = p2) (hE : E μ (.ref q :: as) (n, c, s, M) (.inl (some (.double x))) (n, c, s, M1)) (kk : JV E cd (p2, l, .double x :: r) (n, c, s, M1) o hf) : JV E cd (pc, l, st) (n, c, s, M) o hf := JV.inv hl hst has hM hr hp hE kk
end JVD2
section JVW
variable {E : JE} {cd : List (Nat × JA)} {pc p2 : Nat} {l : List (Nat × Value)} {r : List Value} {h hf : JH} {o : JO} {L : Nat} {xs : Nat → Int32}
theorem JV.sld {i : Int32} {a : Nat} (hl : jlk cd pc = some (a_sld L xs)) (hi : i = nI a) (ha : a < L) (hL : L < 2 ^ 31) (hp : pc + 1 = p2) (kk : JV E cd (p2, l, .int (xs a) :: r) h o hf) : JV E cd (pc, l, .int i :: .ref 0 :: r) h o hf := by
  subst hi
  subst hp
  intro e he
  refine JR.one hl ?_ (kk e he)
  unfold a_sld
  dsimp only
  rw [if_pos ⟨rfl, jin_nI ha hL⟩, nI_clamp (Nat.lt_trans ha hL)]
theorem JV.slen (hl : jlk cd pc = some (a_slen L)) (hp : pc + 1 = p2) (kk : JV E cd (p2, l, .int (nI L) :: r) h o hf) : JV E cd (pc, l, .ref 0 :: r) h o hf := by
  subst hp
  exact fun e he => JR.one hl rfl (kk e he)
end JVW
section LAW
variable {B c s j L : Nat} {xs : Nat → Int32} {S : Sys} {μ : Mem} {w : Nat → Int64} {o : JO} {hf : JH} {Q : JH → Prop}
set_option maxRecDepth 100000 in
theorem lc_0 (hL : L < 2 ^ 31) (hj : 5 * j + 4 < L) (hG : GD B S μ) (hA : AG ct_L_begin (x_X6_begin S (xs (5 * j + 1)) (xs (5 * j + 2))).2 (x_X7_begin μ (xs (5 * j + 1)) (xs (5 * j + 2)))) (kk : ∀ (c' s' : Nat) (w' : Nat → Int64), c' ≤ c + 1 → s' ≤ s + 6 → ∃ hf, Q hf ∧ JV (Ev mtab mcode 11) (jcL_law L xs) (1335, [(0, .ref 0), (1, .ref 1), (2, .ref 183), (3, .ref 190), (4, .int (nI (5 * j)))], []) (191, c', s', lm (jS (x_X6_begin S (xs (5 * j + 1)) (xs (5 * j + 2))).2 S (x_X6_begin S (xs (5 * j + 1)) (xs (5 * j + 2))).1) (x_X7_begin μ (xs (5 * j + 1)) (xs (5 * j + 2))).1 w') o hf) : ∃ hf, Q hf ∧ JV (Ev mtab mcode 11) (jcL_law L xs) (144, [(0, .ref 0), (1, .ref 1), (2, .ref 183), (3, .ref 190), (4, .int (nI (5 * j)))], []) (191, c, s, lm S μ w) o hf := by
  obtain ⟨c', s', w', hc, hs, hw, ev⟩ := ev_L_begin (d := 11) (c := c) (s := s) (μ := μ) (w := w) (by omega) hG.1.1 (Nat.lt_of_le_of_lt (by omega) hG.1.2) (show x_X6_begin S (xs (5 * j + 1)) (xs (5 * j + 2)) = x_X6_begin S (xs (5 * j + 1)) (xs (5 * j + 2)) from rfl) hA.k
  obtain ⟨hf, hq, kk⟩ := kk c' s' w' hc hs
  refine ⟨hf, hq, ?_⟩
  refine JV.ald (p2 := 145) rfl rfl rfl ?_
  refine JV.ald (p2 := 146) rfl rfl rfl ?_
  refine JV.ild (p2 := 148) rfl rfl rfl ?_
  refine JV.stk (len := 1) (sem := (s_push (.int 1))) (p2 := 149) rfl rfl rfl ?_
  refine JV.stk (len := 1) (sem := s_iadd) (p2 := 150) rfl rfl rfl ?_
  refine JV.sld (p2 := 151) (a := 5 * j + 1) rfl (nI_addE rfl rfl) (by omega) hL rfl ?_
  refine JV.ald (p2 := 152) rfl rfl rfl ?_
  refine JV.ild (p2 := 154) rfl rfl rfl ?_
  refine JV.stk (len := 1) (sem := (s_push (.int 2))) (p2 := 155) rfl rfl rfl ?_
  refine JV.stk (len := 1) (sem := s_iadd) (p2 := 156) rfl rfl rfl ?_
  refine JV.sld (p2 := 157) (a := 5 * j + 2) rfl (nI_addE rfl rfl) (by omega) hL rfl ?_
  refine JV.ald (p2 := 158) rfl rfl rfl ?_
  refine JV.ins (p2 := 161) (rv := some (.int ((x_X7_begin μ (xs (5 * j + 1)) (xs (5 * j + 2))).1 0 0 1))) rfl (Nat.le_of_ble_eq_true rfl) rfl rfl (Nat.le_of_ble_eq_true rfl) rfl ev rfl ?_
  refine JV.ist (p2 := 163) rfl rfl rfl ?_
  refine JV.ald (p2 := 164) rfl rfl rfl ?_
  refine JV.ald (p2 := 165) rfl rfl rfl ?_
  refine JV.ild (p2 := 167) rfl rfl rfl ?_
  refine JV.stk (len := 1) (sem := (s_push (.int 1))) (p2 := 168) rfl rfl rfl ?_
  refine JV.stk (len := 1) (sem := s_iadd) (p2 := 169) rfl rfl rfl ?_
  refine JV.sld (p2 := 170) (a := 5 * j + 1) rfl (nI_addE rfl rfl) (by omega) hL rfl ?_
  refine JV.ald (p2 := 171) rfl rfl rfl ?_
  refine JV.ild (p2 := 173) rfl rfl rfl ?_
  refine JV.stk (len := 1) (sem := (s_push (.int 2))) (p2 := 174) rfl rfl rfl ?_
  refine JV.stk (len := 1) (sem := s_iadd) (p2 := 175) rfl rfl rfl ?_
  refine JV.sld (p2 := 176) (a := 5 * j + 2) rfl (nI_addE rfl rfl) (by omega) hL rfl ?_
  refine JV.invI (p2 := 179) rfl rfl rfl lm_M (Nat.le_of_ble_eq_true rfl) rfl (lm_ev (ev_X7_begin (by omega) (mw_self (B := 0) hG.2.1.1) (by decide) hG.2.1.2.1 rfl)) ?_
  refine JV.ist (p2 := 181) rfl rfl rfl ?_
  refine JV.ald (p2 := 182) rfl rfl rfl ?_
  refine JV.invI (p2 := 185) rfl rfl rfl lm_M (Nat.le_of_ble_eq_true rfl) rfl (lm_ev (ev_X7_thrown (by omega) rfl)) ?_
  refine JV.ild (p2 := 187) rfl rfl rfl ?_
  refine JV.brT rfl rfl th_eq ?_
  refine JV.ild (p2 := 194) rfl rfl rfl ?_
  rcases hA with ⟨v, h1, h2, h3⟩ | ⟨E, h1, h2, h3⟩
  · refine JV.brF (p2 := 197) rfl rfl rfl (fun e => e h2) ?_
    refine JV.ald (p2 := 198) rfl rfl rfl ?_
    refine JV.stk (len := 1) (sem := (s_push (.int 0))) (p2 := 199) rfl rfl rfl ?_
    refine JV.lald (p2 := 200) (j := 0) rfl lm_o rfl (by decide) (by decide) rfl ?_
    refine JV.ild (p2 := 202) rfl rfl rfl ?_
    refine JV.stk (len := 1) (sem := s_i2l) (p2 := 203) rfl rfl rfl ?_
    refine JV.stk (len := 1) (sem := s_lcmp) (p2 := 204) rfl rfl rfl ?_
    refine JV.brT rfl rfl (lc_eq0 (by rw [hw v h1, h3])) ?_
    refine JV.goto rfl ?_
    exact JV.keep [0, 1, 2, 3, 4] rfl kk
  · refine JV.brT rfl rfl h3 ?_
    refine JV.goto rfl ?_
    exact JV.keep [0, 1, 2, 3, 4] rfl kk
set_option maxRecDepth 100000 in
theorem lc_1 (hL : L < 2 ^ 31) (hj : 5 * j + 4 < L) (hG : GD B S μ) (hA : AG ct_L_setSpan (x_X6_setSpan S (xs (5 * j + 1)) (xs (5 * j + 2))).2 (x_X7_setSpan μ (xs (5 * j + 1)) (xs (5 * j + 2)))) (kk : ∀ (c' s' : Nat) (w' : Nat → Int64), c' ≤ c + 1 → s' ≤ s + 6 → ∃ hf, Q hf ∧ JV (Ev mtab mcode 11) (jcL_law L xs) (1335, [(0, .ref 0), (1, .ref 1), (2, .ref 183), (3, .ref 190), (4, .int (nI (5 * j)))], []) (191, c', s', lm (jS (x_X6_setSpan S (xs (5 * j + 1)) (xs (5 * j + 2))).2 S (x_X6_setSpan S (xs (5 * j + 1)) (xs (5 * j + 2))).1) (x_X7_setSpan μ (xs (5 * j + 1)) (xs (5 * j + 2))).1 w') o hf) : ∃ hf, Q hf ∧ JV (Ev mtab mcode 11) (jcL_law L xs) (212, [(0, .ref 0), (1, .ref 1), (2, .ref 183), (3, .ref 190), (4, .int (nI (5 * j)))], []) (191, c, s, lm S μ w) o hf := by
  obtain ⟨c', s', w', hc, hs, hw, ev⟩ := ev_L_setSpan (d := 11) (c := c) (s := s) (μ := μ) (w := w) (by omega) hG.1.1 (Nat.lt_of_le_of_lt (by omega) hG.1.2) (show x_X6_setSpan S (xs (5 * j + 1)) (xs (5 * j + 2)) = x_X6_setSpan S (xs (5 * j + 1)) (xs (5 * j + 2)) from rfl) hA.k
  obtain ⟨hf, hq, kk⟩ := kk c' s' w' hc hs
  refine ⟨hf, hq, ?_⟩
  refine JV.ald (p2 := 213) rfl rfl rfl ?_
  refine JV.ald (p2 := 214) rfl rfl rfl ?_
  refine JV.ild (p2 := 216) rfl rfl rfl ?_
  refine JV.stk (len := 1) (sem := (s_push (.int 1))) (p2 := 217) rfl rfl rfl ?_
  refine JV.stk (len := 1) (sem := s_iadd) (p2 := 218) rfl rfl rfl ?_
  refine JV.sld (p2 := 219) (a := 5 * j + 1) rfl (nI_addE rfl rfl) (by omega) hL rfl ?_
  refine JV.ald (p2 := 220) rfl rfl rfl ?_
  refine JV.ild (p2 := 222) rfl rfl rfl ?_
  refine JV.stk (len := 1) (sem := (s_push (.int 2))) (p2 := 223) rfl rfl rfl ?_
  refine JV.stk (len := 1) (sem := s_iadd) (p2 := 224) rfl rfl rfl ?_
  refine JV.sld (p2 := 225) (a := 5 * j + 2) rfl (nI_addE rfl rfl) (by omega) hL rfl ?_
  refine JV.ald (p2 := 226) rfl rfl rfl ?_
  refine JV.ins (p2 := 229) (rv := some (.int ((x_X7_setSpan μ (xs (5 * j + 1)) (xs (5 * j + 2))).1 0 0 1))) rfl (Nat.le_of_ble_eq_true rfl) rfl rfl (Nat.le_of_ble_eq_true rfl) rfl ev rfl ?_
  refine JV.ist (p2 := 231) rfl rfl rfl ?_
  refine JV.ald (p2 := 232) rfl rfl rfl ?_
  refine JV.ald (p2 := 233) rfl rfl rfl ?_
  refine JV.ild (p2 := 235) rfl rfl rfl ?_
  refine JV.stk (len := 1) (sem := (s_push (.int 1))) (p2 := 236) rfl rfl rfl ?_
  refine JV.stk (len := 1) (sem := s_iadd) (p2 := 237) rfl rfl rfl ?_
  refine JV.sld (p2 := 238) (a := 5 * j + 1) rfl (nI_addE rfl rfl) (by omega) hL rfl ?_
  refine JV.ald (p2 := 239) rfl rfl rfl ?_
  refine JV.ild (p2 := 241) rfl rfl rfl ?_
  refine JV.stk (len := 1) (sem := (s_push (.int 2))) (p2 := 242) rfl rfl rfl ?_
  refine JV.stk (len := 1) (sem := s_iadd) (p2 := 243) rfl rfl rfl ?_
  refine JV.sld (p2 := 244) (a := 5 * j + 2) rfl (nI_addE rfl rfl) (by omega) hL rfl ?_
  refine JV.invI (p2 := 247) rfl rfl rfl lm_M (Nat.le_of_ble_eq_true rfl) rfl (lm_ev (ev_X7_setSpan (by omega) (mw_self (B := 0) hG.2.1.1) (by decide) hG.2.1.2.1 rfl)) ?_
  refine JV.ist (p2 := 249) rfl rfl rfl ?_
  refine JV.ald (p2 := 250) rfl rfl rfl ?_
  refine JV.invI (p2 := 253) rfl rfl rfl lm_M (Nat.le_of_ble_eq_true rfl) rfl (lm_ev (ev_X7_thrown (by omega) rfl)) ?_
  refine JV.ild (p2 := 255) rfl rfl rfl ?_
  refine JV.brT rfl rfl th_eq ?_
  refine JV.ild (p2 := 262) rfl rfl rfl ?_
  rcases hA with ⟨v, h1, h2, h3⟩ | ⟨E, h1, h2, h3⟩
  · refine JV.brF (p2 := 265) rfl rfl rfl (fun e => e h2) ?_
    refine JV.ald (p2 := 266) rfl rfl rfl ?_
    refine JV.stk (len := 1) (sem := (s_push (.int 0))) (p2 := 267) rfl rfl rfl ?_
    refine JV.lald (p2 := 268) (j := 0) rfl lm_o rfl (by decide) (by decide) rfl ?_
    refine JV.ild (p2 := 270) rfl rfl rfl ?_
    refine JV.stk (len := 1) (sem := s_i2l) (p2 := 271) rfl rfl rfl ?_
    refine JV.stk (len := 1) (sem := s_lcmp) (p2 := 272) rfl rfl rfl ?_
    refine JV.brT rfl rfl (lc_eq0 (by rw [hw v h1, h3])) ?_
    refine JV.goto rfl ?_
    exact JV.keep [0, 1, 2, 3, 4] rfl kk
  · refine JV.brT rfl rfl h3 ?_
    refine JV.goto rfl ?_
    exact JV.keep [0, 1, 2, 3, 4] rfl kk
set_option maxRecDepth 100000 in
theorem lc_2 (hL : L < 2 ^ 31) (hj : 5 * j + 4 < L) (hG : GD B S μ) (hA : AG ct_L_setStrength (x_X6_setStrength S (xs (5 * j + 1)) (xs (5 * j + 2))).2 (x_X7_setStrength μ (xs (5 * j + 1)) (xs (5 * j + 2)))) (kk : ∀ (c' s' : Nat) (w' : Nat → Int64), c' ≤ c + 1 → s' ≤ s + 6 → ∃ hf, Q hf ∧ JV (Ev mtab mcode 11) (jcL_law L xs) (1335, [(0, .ref 0), (1, .ref 1), (2, .ref 183), (3, .ref 190), (4, .int (nI (5 * j)))], []) (191, c', s', lm (jS (x_X6_setStrength S (xs (5 * j + 1)) (xs (5 * j + 2))).2 S (x_X6_setStrength S (xs (5 * j + 1)) (xs (5 * j + 2))).1) (x_X7_setStrength μ (xs (5 * j + 1)) (xs (5 * j + 2))).1 w') o hf) : ∃ hf, Q hf ∧ JV (Ev mtab mcode 11) (jcL_law L xs) (280, [(0, .ref 0), (1, .ref 1), (2, .ref 183), (3, .ref 190), (4, .int (nI (5 * j)))], []) (191, c, s, lm S μ w) o hf := by
  obtain ⟨c', s', w', hc, hs, hw, ev⟩ := ev_L_setStrength (d := 11) (c := c) (s := s) (μ := μ) (w := w) (by omega) hG.1.1 (Nat.lt_of_le_of_lt (by omega) hG.1.2) (show x_X6_setStrength S (xs (5 * j + 1)) (xs (5 * j + 2)) = x_X6_setStrength S (xs (5 * j + 1)) (xs (5 * j + 2)) from rfl) hA.k
  obtain ⟨hf, hq, kk⟩ := kk c' s' w' hc hs
  refine ⟨hf, hq, ?_⟩
  refine JV.ald (p2 := 281) rfl rfl rfl ?_
  refine JV.ald (p2 := 282) rfl rfl rfl ?_
  refine JV.ild (p2 := 284) rfl rfl rfl ?_
  refine JV.stk (len := 1) (sem := (s_push (.int 1))) (p2 := 285) rfl rfl rfl ?_
  refine JV.stk (len := 1) (sem := s_iadd) (p2 := 286) rfl rfl rfl ?_
  refine JV.sld (p2 := 287) (a := 5 * j + 1) rfl (nI_addE rfl rfl) (by omega) hL rfl ?_
  refine JV.ald (p2 := 288) rfl rfl rfl ?_
  refine JV.ild (p2 := 290) rfl rfl rfl ?_
  refine JV.stk (len := 1) (sem := (s_push (.int 2))) (p2 := 291) rfl rfl rfl ?_
  refine JV.stk (len := 1) (sem := s_iadd) (p2 := 292) rfl rfl rfl ?_
  refine JV.sld (p2 := 293) (a := 5 * j + 2) rfl (nI_addE rfl rfl) (by omega) hL rfl ?_
  refine JV.ald (p2 := 294) rfl rfl rfl ?_
  refine JV.ins (p2 := 297) (rv := some (.int ((x_X7_setStrength μ (xs (5 * j + 1)) (xs (5 * j + 2))).1 0 0 1))) rfl (Nat.le_of_ble_eq_true rfl) rfl rfl (Nat.le_of_ble_eq_true rfl) rfl ev rfl ?_
  refine JV.ist (p2 := 299) rfl rfl rfl ?_
  refine JV.ald (p2 := 300) rfl rfl rfl ?_
  refine JV.ald (p2 := 301) rfl rfl rfl ?_
  refine JV.ild (p2 := 303) rfl rfl rfl ?_
  refine JV.stk (len := 1) (sem := (s_push (.int 1))) (p2 := 304) rfl rfl rfl ?_
  refine JV.stk (len := 1) (sem := s_iadd) (p2 := 305) rfl rfl rfl ?_
  refine JV.sld (p2 := 306) (a := 5 * j + 1) rfl (nI_addE rfl rfl) (by omega) hL rfl ?_
  refine JV.ald (p2 := 307) rfl rfl rfl ?_
  refine JV.ild (p2 := 309) rfl rfl rfl ?_
  refine JV.stk (len := 1) (sem := (s_push (.int 2))) (p2 := 310) rfl rfl rfl ?_
  refine JV.stk (len := 1) (sem := s_iadd) (p2 := 311) rfl rfl rfl ?_
  refine JV.sld (p2 := 312) (a := 5 * j + 2) rfl (nI_addE rfl rfl) (by omega) hL rfl ?_
  refine JV.invI (p2 := 315) rfl rfl rfl lm_M (Nat.le_of_ble_eq_true rfl) rfl (lm_ev (ev_X7_setStrength (by omega) (mw_self (B := 0) hG.2.1.1) (by decide) hG.2.1.2.1 rfl)) ?_
  refine JV.ist (p2 := 317) rfl rfl rfl ?_
  refine JV.ald (p2 := 318) rfl rfl rfl ?_
  refine JV.invI (p2 := 321) rfl rfl rfl lm_M (Nat.le_of_ble_eq_true rfl) rfl (lm_ev (ev_X7_thrown (by omega) rfl)) ?_
  refine JV.ild (p2 := 323) rfl rfl rfl ?_
  refine JV.brT rfl rfl th_eq ?_
  refine JV.ild (p2 := 330) rfl rfl rfl ?_
  rcases hA with ⟨v, h1, h2, h3⟩ | ⟨E, h1, h2, h3⟩
  · refine JV.brF (p2 := 333) rfl rfl rfl (fun e => e h2) ?_
    refine JV.ald (p2 := 334) rfl rfl rfl ?_
    refine JV.stk (len := 1) (sem := (s_push (.int 0))) (p2 := 335) rfl rfl rfl ?_
    refine JV.lald (p2 := 336) (j := 0) rfl lm_o rfl (by decide) (by decide) rfl ?_
    refine JV.ild (p2 := 338) rfl rfl rfl ?_
    refine JV.stk (len := 1) (sem := s_i2l) (p2 := 339) rfl rfl rfl ?_
    refine JV.stk (len := 1) (sem := s_lcmp) (p2 := 340) rfl rfl rfl ?_
    refine JV.brT rfl rfl (lc_eq0 (by rw [hw v h1, h3])) ?_
    refine JV.goto rfl ?_
    exact JV.keep [0, 1, 2, 3, 4] rfl kk
  · refine JV.brT rfl rfl h3 ?_
    refine JV.goto rfl ?_
    exact JV.keep [0, 1, 2, 3, 4] rfl kk
set_option maxRecDepth 100000 in
theorem lc_3 (hL : L < 2 ^ 31) (hj : 5 * j + 4 < L) (hG : GD B S μ) (hA : AG ct_L_setCurfew (x_X6_setCurfew S (xs (5 * j + 1)) (xs (5 * j + 2))).2 (x_X7_setCurfew μ (xs (5 * j + 1)) (xs (5 * j + 2)))) (kk : ∀ (c' s' : Nat) (w' : Nat → Int64), c' ≤ c + 1 → s' ≤ s + 6 → ∃ hf, Q hf ∧ JV (Ev mtab mcode 11) (jcL_law L xs) (1335, [(0, .ref 0), (1, .ref 1), (2, .ref 183), (3, .ref 190), (4, .int (nI (5 * j)))], []) (191, c', s', lm (jS (x_X6_setCurfew S (xs (5 * j + 1)) (xs (5 * j + 2))).2 S (x_X6_setCurfew S (xs (5 * j + 1)) (xs (5 * j + 2))).1) (x_X7_setCurfew μ (xs (5 * j + 1)) (xs (5 * j + 2))).1 w') o hf) : ∃ hf, Q hf ∧ JV (Ev mtab mcode 11) (jcL_law L xs) (348, [(0, .ref 0), (1, .ref 1), (2, .ref 183), (3, .ref 190), (4, .int (nI (5 * j)))], []) (191, c, s, lm S μ w) o hf := by
  obtain ⟨c', s', w', hc, hs, hw, ev⟩ := ev_L_setCurfew (d := 11) (c := c) (s := s) (μ := μ) (w := w) (by omega) hG.1.1 (Nat.lt_of_le_of_lt (by omega) hG.1.2) (show x_X6_setCurfew S (xs (5 * j + 1)) (xs (5 * j + 2)) = x_X6_setCurfew S (xs (5 * j + 1)) (xs (5 * j + 2)) from rfl) hA.k
  obtain ⟨hf, hq, kk⟩ := kk c' s' w' hc hs
  refine ⟨hf, hq, ?_⟩
  refine JV.ald (p2 := 349) rfl rfl rfl ?_
  refine JV.ald (p2 := 350) rfl rfl rfl ?_
  refine JV.ild (p2 := 352) rfl rfl rfl ?_
  refine JV.stk (len := 1) (sem := (s_push (.int 1))) (p2 := 353) rfl rfl rfl ?_
  refine JV.stk (len := 1) (sem := s_iadd) (p2 := 354) rfl rfl rfl ?_
  refine JV.sld (p2 := 355) (a := 5 * j + 1) rfl (nI_addE rfl rfl) (by omega) hL rfl ?_
  refine JV.ald (p2 := 356) rfl rfl rfl ?_
  refine JV.ild (p2 := 358) rfl rfl rfl ?_
  refine JV.stk (len := 1) (sem := (s_push (.int 2))) (p2 := 359) rfl rfl rfl ?_
  refine JV.stk (len := 1) (sem := s_iadd) (p2 := 360) rfl rfl rfl ?_
  refine JV.sld (p2 := 361) (a := 5 * j + 2) rfl (nI_addE rfl rfl) (by omega) hL rfl ?_
  refine JV.ald (p2 := 362) rfl rfl rfl ?_
  refine JV.ins (p2 := 365) (rv := some (.int ((x_X7_setCurfew μ (xs (5 * j + 1)) (xs (5 * j + 2))).1 0 0 1))) rfl (Nat.le_of_ble_eq_true rfl) rfl rfl (Nat.le_of_ble_eq_true rfl) rfl ev rfl ?_
  refine JV.ist (p2 := 367) rfl rfl rfl ?_
  refine JV.ald (p2 := 368) rfl rfl rfl ?_
  refine JV.ald (p2 := 369) rfl rfl rfl ?_
  refine JV.ild (p2 := 371) rfl rfl rfl ?_
  refine JV.stk (len := 1) (sem := (s_push (.int 1))) (p2 := 372) rfl rfl rfl ?_
  refine JV.stk (len := 1) (sem := s_iadd) (p2 := 373) rfl rfl rfl ?_
  refine JV.sld (p2 := 374) (a := 5 * j + 1) rfl (nI_addE rfl rfl) (by omega) hL rfl ?_
  refine JV.ald (p2 := 375) rfl rfl rfl ?_
  refine JV.ild (p2 := 377) rfl rfl rfl ?_
  refine JV.stk (len := 1) (sem := (s_push (.int 2))) (p2 := 378) rfl rfl rfl ?_
  refine JV.stk (len := 1) (sem := s_iadd) (p2 := 379) rfl rfl rfl ?_
  refine JV.sld (p2 := 380) (a := 5 * j + 2) rfl (nI_addE rfl rfl) (by omega) hL rfl ?_
  refine JV.invI (p2 := 383) rfl rfl rfl lm_M (Nat.le_of_ble_eq_true rfl) rfl (lm_ev (ev_X7_setCurfew (by omega) (mw_self (B := 0) hG.2.1.1) (by decide) hG.2.1.2.1 rfl)) ?_
  refine JV.ist (p2 := 385) rfl rfl rfl ?_
  refine JV.ald (p2 := 386) rfl rfl rfl ?_
  refine JV.invI (p2 := 389) rfl rfl rfl lm_M (Nat.le_of_ble_eq_true rfl) rfl (lm_ev (ev_X7_thrown (by omega) rfl)) ?_
  refine JV.ild (p2 := 391) rfl rfl rfl ?_
  refine JV.brT rfl rfl th_eq ?_
  refine JV.ild (p2 := 398) rfl rfl rfl ?_
  rcases hA with ⟨v, h1, h2, h3⟩ | ⟨E, h1, h2, h3⟩
  · refine JV.brF (p2 := 401) rfl rfl rfl (fun e => e h2) ?_
    refine JV.ald (p2 := 402) rfl rfl rfl ?_
    refine JV.stk (len := 1) (sem := (s_push (.int 0))) (p2 := 403) rfl rfl rfl ?_
    refine JV.lald (p2 := 404) (j := 0) rfl lm_o rfl (by decide) (by decide) rfl ?_
    refine JV.ild (p2 := 406) rfl rfl rfl ?_
    refine JV.stk (len := 1) (sem := s_i2l) (p2 := 407) rfl rfl rfl ?_
    refine JV.stk (len := 1) (sem := s_lcmp) (p2 := 408) rfl rfl rfl ?_
    refine JV.brT rfl rfl (lc_eq0 (by rw [hw v h1, h3])) ?_
    refine JV.goto rfl ?_
    exact JV.keep [0, 1, 2, 3, 4] rfl kk
  · refine JV.brT rfl rfl h3 ?_
    refine JV.goto rfl ?_
    exact JV.keep [0, 1, 2, 3, 4] rfl kk
set_option maxRecDepth 100000 in
theorem lc_4 (hL : L < 2 ^ 31) (hj : 5 * j + 4 < L) (hG : GD B S μ) (hA : AG ct_L_expect (x_X6_expect S (xs (5 * j + 1)) (xs (5 * j + 2)) (xs (5 * j + 3)) (xs (5 * j + 4))).2 (x_X7_expect μ (xs (5 * j + 1)) (xs (5 * j + 2)) (xs (5 * j + 3)) (xs (5 * j + 4)))) (kk : ∀ (c' s' : Nat) (w' : Nat → Int64), c' ≤ c + 1 → s' ≤ s + 6 → ∃ hf, Q hf ∧ JV (Ev mtab mcode 11) (jcL_law L xs) (1335, [(0, .ref 0), (1, .ref 1), (2, .ref 183), (3, .ref 190), (4, .int (nI (5 * j)))], []) (191, c', s', lm (jS (x_X6_expect S (xs (5 * j + 1)) (xs (5 * j + 2)) (xs (5 * j + 3)) (xs (5 * j + 4))).2 S (x_X6_expect S (xs (5 * j + 1)) (xs (5 * j + 2)) (xs (5 * j + 3)) (xs (5 * j + 4))).1) (x_X7_expect μ (xs (5 * j + 1)) (xs (5 * j + 2)) (xs (5 * j + 3)) (xs (5 * j + 4))).1 w') o hf) : ∃ hf, Q hf ∧ JV (Ev mtab mcode 11) (jcL_law L xs) (416, [(0, .ref 0), (1, .ref 1), (2, .ref 183), (3, .ref 190), (4, .int (nI (5 * j)))], []) (191, c, s, lm S μ w) o hf := by
  obtain ⟨c', s', w', hc, hs, hw, ev⟩ := ev_L_expect (d := 11) (c := c) (s := s) (μ := μ) (w := w) (by omega) hG.1.1 (Nat.lt_of_le_of_lt (by omega) hG.1.2) (show x_X6_expect S (xs (5 * j + 1)) (xs (5 * j + 2)) (xs (5 * j + 3)) (xs (5 * j + 4)) = x_X6_expect S (xs (5 * j + 1)) (xs (5 * j + 2)) (xs (5 * j + 3)) (xs (5 * j + 4)) from rfl) hA.k
  obtain ⟨hf, hq, kk⟩ := kk c' s' w' hc hs
  refine ⟨hf, hq, ?_⟩
  refine JV.ald (p2 := 417) rfl rfl rfl ?_
  refine JV.ald (p2 := 418) rfl rfl rfl ?_
  refine JV.ild (p2 := 420) rfl rfl rfl ?_
  refine JV.stk (len := 1) (sem := (s_push (.int 1))) (p2 := 421) rfl rfl rfl ?_
  refine JV.stk (len := 1) (sem := s_iadd) (p2 := 422) rfl rfl rfl ?_
  refine JV.sld (p2 := 423) (a := 5 * j + 1) rfl (nI_addE rfl rfl) (by omega) hL rfl ?_
  refine JV.ald (p2 := 424) rfl rfl rfl ?_
  refine JV.ild (p2 := 426) rfl rfl rfl ?_
  refine JV.stk (len := 1) (sem := (s_push (.int 2))) (p2 := 427) rfl rfl rfl ?_
  refine JV.stk (len := 1) (sem := s_iadd) (p2 := 428) rfl rfl rfl ?_
  refine JV.sld (p2 := 429) (a := 5 * j + 2) rfl (nI_addE rfl rfl) (by omega) hL rfl ?_
  refine JV.ald (p2 := 430) rfl rfl rfl ?_
  refine JV.ild (p2 := 432) rfl rfl rfl ?_
  refine JV.stk (len := 1) (sem := (s_push (.int 3))) (p2 := 433) rfl rfl rfl ?_
  refine JV.stk (len := 1) (sem := s_iadd) (p2 := 434) rfl rfl rfl ?_
  refine JV.sld (p2 := 435) (a := 5 * j + 3) rfl (nI_addE rfl rfl) (by omega) hL rfl ?_
  refine JV.ald (p2 := 436) rfl rfl rfl ?_
  refine JV.ild (p2 := 438) rfl rfl rfl ?_
  refine JV.stk (len := 1) (sem := (s_push (.int 4))) (p2 := 439) rfl rfl rfl ?_
  refine JV.stk (len := 1) (sem := s_iadd) (p2 := 440) rfl rfl rfl ?_
  refine JV.sld (p2 := 441) (a := 5 * j + 4) rfl (nI_addE rfl rfl) (by omega) hL rfl ?_
  refine JV.ald (p2 := 442) rfl rfl rfl ?_
  refine JV.ins (p2 := 445) (rv := some (.int ((x_X7_expect μ (xs (5 * j + 1)) (xs (5 * j + 2)) (xs (5 * j + 3)) (xs (5 * j + 4))).1 0 0 1))) rfl (Nat.le_of_ble_eq_true rfl) rfl rfl (Nat.le_of_ble_eq_true rfl) rfl ev rfl ?_
  refine JV.ist (p2 := 447) rfl rfl rfl ?_
  refine JV.ald (p2 := 448) rfl rfl rfl ?_
  refine JV.ald (p2 := 449) rfl rfl rfl ?_
  refine JV.ild (p2 := 451) rfl rfl rfl ?_
  refine JV.stk (len := 1) (sem := (s_push (.int 1))) (p2 := 452) rfl rfl rfl ?_
  refine JV.stk (len := 1) (sem := s_iadd) (p2 := 453) rfl rfl rfl ?_
  refine JV.sld (p2 := 454) (a := 5 * j + 1) rfl (nI_addE rfl rfl) (by omega) hL rfl ?_
  refine JV.ald (p2 := 455) rfl rfl rfl ?_
  refine JV.ild (p2 := 457) rfl rfl rfl ?_
  refine JV.stk (len := 1) (sem := (s_push (.int 2))) (p2 := 458) rfl rfl rfl ?_
  refine JV.stk (len := 1) (sem := s_iadd) (p2 := 459) rfl rfl rfl ?_
  refine JV.sld (p2 := 460) (a := 5 * j + 2) rfl (nI_addE rfl rfl) (by omega) hL rfl ?_
  refine JV.ald (p2 := 461) rfl rfl rfl ?_
  refine JV.ild (p2 := 463) rfl rfl rfl ?_
  refine JV.stk (len := 1) (sem := (s_push (.int 3))) (p2 := 464) rfl rfl rfl ?_
  refine JV.stk (len := 1) (sem := s_iadd) (p2 := 465) rfl rfl rfl ?_
  refine JV.sld (p2 := 466) (a := 5 * j + 3) rfl (nI_addE rfl rfl) (by omega) hL rfl ?_
  refine JV.ald (p2 := 467) rfl rfl rfl ?_
  refine JV.ild (p2 := 469) rfl rfl rfl ?_
  refine JV.stk (len := 1) (sem := (s_push (.int 4))) (p2 := 470) rfl rfl rfl ?_
  refine JV.stk (len := 1) (sem := s_iadd) (p2 := 471) rfl rfl rfl ?_
  refine JV.sld (p2 := 472) (a := 5 * j + 4) rfl (nI_addE rfl rfl) (by omega) hL rfl ?_
  refine JV.invI (p2 := 475) rfl rfl rfl lm_M (Nat.le_of_ble_eq_true rfl) rfl (lm_ev (ev_X7_expect (by omega) (mw_self (B := 0) hG.2.1.1) (by decide) hG.2.1.2.1 rfl)) ?_
  refine JV.ist (p2 := 477) rfl rfl rfl ?_
  refine JV.ald (p2 := 478) rfl rfl rfl ?_
  refine JV.invI (p2 := 481) rfl rfl rfl lm_M (Nat.le_of_ble_eq_true rfl) rfl (lm_ev (ev_X7_thrown (by omega) rfl)) ?_
  refine JV.ild (p2 := 483) rfl rfl rfl ?_
  refine JV.brT rfl rfl th_eq ?_
  refine JV.ild (p2 := 490) rfl rfl rfl ?_
  rcases hA with ⟨v, h1, h2, h3⟩ | ⟨E, h1, h2, h3⟩
  · refine JV.brF (p2 := 493) rfl rfl rfl (fun e => e h2) ?_
    refine JV.ald (p2 := 494) rfl rfl rfl ?_
    refine JV.stk (len := 1) (sem := (s_push (.int 0))) (p2 := 495) rfl rfl rfl ?_
    refine JV.lald (p2 := 496) (j := 0) rfl lm_o rfl (by decide) (by decide) rfl ?_
    refine JV.ild (p2 := 498) rfl rfl rfl ?_
    refine JV.stk (len := 1) (sem := s_i2l) (p2 := 499) rfl rfl rfl ?_
    refine JV.stk (len := 1) (sem := s_lcmp) (p2 := 500) rfl rfl rfl ?_
    refine JV.brT rfl rfl (lc_eq0 (by rw [hw v h1, h3])) ?_
    refine JV.goto rfl ?_
    exact JV.keep [0, 1, 2, 3, 4] rfl kk
  · refine JV.brT rfl rfl h3 ?_
    refine JV.goto rfl ?_
    exact JV.keep [0, 1, 2, 3, 4] rfl kk
set_option maxRecDepth 100000 in
theorem lc_5 (hL : L < 2 ^ 31) (hj : 5 * j + 4 < L) (hG : GD B S μ) (hA : AG ct_L_setLeaves (x_X6_setLeaves S (xs (5 * j + 1)) (xs (5 * j + 2))).2 (x_X7_setLeaves μ (xs (5 * j + 1)) (xs (5 * j + 2)))) (kk : ∀ (c' s' : Nat) (w' : Nat → Int64), c' ≤ c + 1 → s' ≤ s + 6 → ∃ hf, Q hf ∧ JV (Ev mtab mcode 11) (jcL_law L xs) (1335, [(0, .ref 0), (1, .ref 1), (2, .ref 183), (3, .ref 190), (4, .int (nI (5 * j)))], []) (191, c', s', lm (jS (x_X6_setLeaves S (xs (5 * j + 1)) (xs (5 * j + 2))).2 S (x_X6_setLeaves S (xs (5 * j + 1)) (xs (5 * j + 2))).1) (x_X7_setLeaves μ (xs (5 * j + 1)) (xs (5 * j + 2))).1 w') o hf) : ∃ hf, Q hf ∧ JV (Ev mtab mcode 11) (jcL_law L xs) (508, [(0, .ref 0), (1, .ref 1), (2, .ref 183), (3, .ref 190), (4, .int (nI (5 * j)))], []) (191, c, s, lm S μ w) o hf := by
  obtain ⟨c', s', w', hc, hs, hw, ev⟩ := ev_L_setLeaves (d := 11) (c := c) (s := s) (μ := μ) (w := w) (by omega) hG.1.1 (Nat.lt_of_le_of_lt (by omega) hG.1.2) (show x_X6_setLeaves S (xs (5 * j + 1)) (xs (5 * j + 2)) = x_X6_setLeaves S (xs (5 * j + 1)) (xs (5 * j + 2)) from rfl) hA.k
  obtain ⟨hf, hq, kk⟩ := kk c' s' w' hc hs
  refine ⟨hf, hq, ?_⟩
  refine JV.ald (p2 := 509) rfl rfl rfl ?_
  refine JV.ald (p2 := 510) rfl rfl rfl ?_
  refine JV.ild (p2 := 512) rfl rfl rfl ?_
  refine JV.stk (len := 1) (sem := (s_push (.int 1))) (p2 := 513) rfl rfl rfl ?_
  refine JV.stk (len := 1) (sem := s_iadd) (p2 := 514) rfl rfl rfl ?_
  refine JV.sld (p2 := 515) (a := 5 * j + 1) rfl (nI_addE rfl rfl) (by omega) hL rfl ?_
  refine JV.ald (p2 := 516) rfl rfl rfl ?_
  refine JV.ild (p2 := 518) rfl rfl rfl ?_
  refine JV.stk (len := 1) (sem := (s_push (.int 2))) (p2 := 519) rfl rfl rfl ?_
  refine JV.stk (len := 1) (sem := s_iadd) (p2 := 520) rfl rfl rfl ?_
  refine JV.sld (p2 := 521) (a := 5 * j + 2) rfl (nI_addE rfl rfl) (by omega) hL rfl ?_
  refine JV.ald (p2 := 522) rfl rfl rfl ?_
  refine JV.ins (p2 := 525) (rv := some (.int ((x_X7_setLeaves μ (xs (5 * j + 1)) (xs (5 * j + 2))).1 0 0 1))) rfl (Nat.le_of_ble_eq_true rfl) rfl rfl (Nat.le_of_ble_eq_true rfl) rfl ev rfl ?_
  refine JV.ist (p2 := 527) rfl rfl rfl ?_
  refine JV.ald (p2 := 528) rfl rfl rfl ?_
  refine JV.ald (p2 := 529) rfl rfl rfl ?_
  refine JV.ild (p2 := 531) rfl rfl rfl ?_
  refine JV.stk (len := 1) (sem := (s_push (.int 1))) (p2 := 532) rfl rfl rfl ?_
  refine JV.stk (len := 1) (sem := s_iadd) (p2 := 533) rfl rfl rfl ?_
  refine JV.sld (p2 := 534) (a := 5 * j + 1) rfl (nI_addE rfl rfl) (by omega) hL rfl ?_
  refine JV.ald (p2 := 535) rfl rfl rfl ?_
  refine JV.ild (p2 := 537) rfl rfl rfl ?_
  refine JV.stk (len := 1) (sem := (s_push (.int 2))) (p2 := 538) rfl rfl rfl ?_
  refine JV.stk (len := 1) (sem := s_iadd) (p2 := 539) rfl rfl rfl ?_
  refine JV.sld (p2 := 540) (a := 5 * j + 2) rfl (nI_addE rfl rfl) (by omega) hL rfl ?_
  refine JV.invI (p2 := 543) rfl rfl rfl lm_M (Nat.le_of_ble_eq_true rfl) rfl (lm_ev (ev_X7_setLeaves (by omega) (mw_self (B := 0) hG.2.1.1) (by decide) hG.2.1.2.1 rfl)) ?_
  refine JV.ist (p2 := 545) rfl rfl rfl ?_
  refine JV.ald (p2 := 546) rfl rfl rfl ?_
  refine JV.invI (p2 := 549) rfl rfl rfl lm_M (Nat.le_of_ble_eq_true rfl) rfl (lm_ev (ev_X7_thrown (by omega) rfl)) ?_
  refine JV.ild (p2 := 551) rfl rfl rfl ?_
  refine JV.brT rfl rfl th_eq ?_
  refine JV.ild (p2 := 558) rfl rfl rfl ?_
  rcases hA with ⟨v, h1, h2, h3⟩ | ⟨E, h1, h2, h3⟩
  · refine JV.brF (p2 := 561) rfl rfl rfl (fun e => e h2) ?_
    refine JV.ald (p2 := 562) rfl rfl rfl ?_
    refine JV.stk (len := 1) (sem := (s_push (.int 0))) (p2 := 563) rfl rfl rfl ?_
    refine JV.lald (p2 := 564) (j := 0) rfl lm_o rfl (by decide) (by decide) rfl ?_
    refine JV.ild (p2 := 566) rfl rfl rfl ?_
    refine JV.stk (len := 1) (sem := s_i2l) (p2 := 567) rfl rfl rfl ?_
    refine JV.stk (len := 1) (sem := s_lcmp) (p2 := 568) rfl rfl rfl ?_
    refine JV.brT rfl rfl (lc_eq0 (by rw [hw v h1, h3])) ?_
    refine JV.goto rfl ?_
    exact JV.keep [0, 1, 2, 3, 4] rfl kk
  · refine JV.brT rfl rfl h3 ?_
    refine JV.goto rfl ?_
    exact JV.keep [0, 1, 2, 3, 4] rfl kk
set_option maxRecDepth 100000 in
theorem lc_6 (hL : L < 2 ^ 31) (hj : 5 * j + 4 < L) (hG : GD B S μ) (hA : AG ct_L_pass (x_X6_pass S (xs (5 * j + 1))).2 (x_X7_pass μ (xs (5 * j + 1)))) (kk : ∀ (c' s' : Nat) (w' : Nat → Int64), c' ≤ c + 1 → s' ≤ s + 6 → ∃ hf, Q hf ∧ JV (Ev mtab mcode 11) (jcL_law L xs) (1335, [(0, .ref 0), (1, .ref 1), (2, .ref 183), (3, .ref 190), (4, .int (nI (5 * j)))], []) (191, c', s', lm (jS (x_X6_pass S (xs (5 * j + 1))).2 S (x_X6_pass S (xs (5 * j + 1))).1) (x_X7_pass μ (xs (5 * j + 1))).1 w') o hf) : ∃ hf, Q hf ∧ JV (Ev mtab mcode 11) (jcL_law L xs) (576, [(0, .ref 0), (1, .ref 1), (2, .ref 183), (3, .ref 190), (4, .int (nI (5 * j)))], []) (191, c, s, lm S μ w) o hf := by
  obtain ⟨c', s', w', hc, hs, hw, ev⟩ := ev_L_pass (d := 11) (c := c) (s := s) (μ := μ) (w := w) (by omega) hG.1.1 (Nat.lt_of_le_of_lt (by omega) hG.1.2) (show x_X6_pass S (xs (5 * j + 1)) = x_X6_pass S (xs (5 * j + 1)) from rfl) hA.k
  obtain ⟨hf, hq, kk⟩ := kk c' s' w' hc hs
  refine ⟨hf, hq, ?_⟩
  refine JV.ald (p2 := 577) rfl rfl rfl ?_
  refine JV.ald (p2 := 578) rfl rfl rfl ?_
  refine JV.ild (p2 := 580) rfl rfl rfl ?_
  refine JV.stk (len := 1) (sem := (s_push (.int 1))) (p2 := 581) rfl rfl rfl ?_
  refine JV.stk (len := 1) (sem := s_iadd) (p2 := 582) rfl rfl rfl ?_
  refine JV.sld (p2 := 583) (a := 5 * j + 1) rfl (nI_addE rfl rfl) (by omega) hL rfl ?_
  refine JV.ald (p2 := 584) rfl rfl rfl ?_
  refine JV.ins (p2 := 587) (rv := some (.int ((x_X7_pass μ (xs (5 * j + 1))).1 0 0 1))) rfl (Nat.le_of_ble_eq_true rfl) rfl rfl (Nat.le_of_ble_eq_true rfl) rfl ev rfl ?_
  refine JV.ist (p2 := 589) rfl rfl rfl ?_
  refine JV.ald (p2 := 590) rfl rfl rfl ?_
  refine JV.ald (p2 := 591) rfl rfl rfl ?_
  refine JV.ild (p2 := 593) rfl rfl rfl ?_
  refine JV.stk (len := 1) (sem := (s_push (.int 1))) (p2 := 594) rfl rfl rfl ?_
  refine JV.stk (len := 1) (sem := s_iadd) (p2 := 595) rfl rfl rfl ?_
  refine JV.sld (p2 := 596) (a := 5 * j + 1) rfl (nI_addE rfl rfl) (by omega) hL rfl ?_
  refine JV.invI (p2 := 599) rfl rfl rfl lm_M (Nat.le_of_ble_eq_true rfl) rfl (lm_ev (ev_X7_pass (by omega) (mw_self (B := 0) hG.2.1.1) (by decide) hG.2.1.2.1 rfl)) ?_
  refine JV.ist (p2 := 601) rfl rfl rfl ?_
  refine JV.ald (p2 := 602) rfl rfl rfl ?_
  refine JV.invI (p2 := 605) rfl rfl rfl lm_M (Nat.le_of_ble_eq_true rfl) rfl (lm_ev (ev_X7_thrown (by omega) rfl)) ?_
  refine JV.ild (p2 := 607) rfl rfl rfl ?_
  refine JV.brT rfl rfl th_eq ?_
  refine JV.ild (p2 := 614) rfl rfl rfl ?_
  rcases hA with ⟨v, h1, h2, h3⟩ | ⟨E, h1, h2, h3⟩
  · refine JV.brF (p2 := 617) rfl rfl rfl (fun e => e h2) ?_
    refine JV.ald (p2 := 618) rfl rfl rfl ?_
    refine JV.stk (len := 1) (sem := (s_push (.int 0))) (p2 := 619) rfl rfl rfl ?_
    refine JV.lald (p2 := 620) (j := 0) rfl lm_o rfl (by decide) (by decide) rfl ?_
    refine JV.ild (p2 := 622) rfl rfl rfl ?_
    refine JV.stk (len := 1) (sem := s_i2l) (p2 := 623) rfl rfl rfl ?_
    refine JV.stk (len := 1) (sem := s_lcmp) (p2 := 624) rfl rfl rfl ?_
    refine JV.brT rfl rfl (lc_eq0 (by rw [hw v h1, h3])) ?_
    refine JV.goto rfl ?_
    exact JV.keep [0, 1, 2, 3, 4] rfl kk
  · refine JV.brT rfl rfl h3 ?_
    refine JV.goto rfl ?_
    exact JV.keep [0, 1, 2, 3, 4] rfl kk
set_option maxRecDepth 100000 in
theorem lc_7 (hL : L < 2 ^ 31) (hj : 5 * j + 4 < L) (hG : GD B S μ) (hA : AG ct_L_aircraft (x_X6_aircraft S (xs (5 * j + 1)) (xs (5 * j + 2))) (x_X7_aircraft μ (xs (5 * j + 1)) (xs (5 * j + 2)))) (kk : ∀ (c' s' : Nat) (w' : Nat → Int64), c' ≤ c + 1 → s' ≤ s + 6 → ∃ hf, Q hf ∧ JV (Ev mtab mcode 11) (jcL_law L xs) (1335, [(0, .ref 0), (1, .ref 1), (2, .ref 183), (3, .ref 190), (4, .int (nI (5 * j)))], []) (191, c', s', lm S (x_X7_aircraft μ (xs (5 * j + 1)) (xs (5 * j + 2))).1 w') o hf) : ∃ hf, Q hf ∧ JV (Ev mtab mcode 11) (jcL_law L xs) (632, [(0, .ref 0), (1, .ref 1), (2, .ref 183), (3, .ref 190), (4, .int (nI (5 * j)))], []) (191, c, s, lm S μ w) o hf := by
  obtain ⟨c', s', w', hc, hs, hw, ev⟩ := ev_L_aircraft (d := 11) (c := c) (s := s) (μ := μ) (w := w) (by omega) hG.1.1 (Nat.lt_of_le_of_lt (by omega) hG.1.2) (show x_X6_aircraft S (xs (5 * j + 1)) (xs (5 * j + 2)) = x_X6_aircraft S (xs (5 * j + 1)) (xs (5 * j + 2)) from rfl) hA.k
  obtain ⟨hf, hq, kk⟩ := kk c' s' w' hc hs
  refine ⟨hf, hq, ?_⟩
  refine JV.ald (p2 := 633) rfl rfl rfl ?_
  refine JV.ald (p2 := 634) rfl rfl rfl ?_
  refine JV.ild (p2 := 636) rfl rfl rfl ?_
  refine JV.stk (len := 1) (sem := (s_push (.int 1))) (p2 := 637) rfl rfl rfl ?_
  refine JV.stk (len := 1) (sem := s_iadd) (p2 := 638) rfl rfl rfl ?_
  refine JV.sld (p2 := 639) (a := 5 * j + 1) rfl (nI_addE rfl rfl) (by omega) hL rfl ?_
  refine JV.ald (p2 := 640) rfl rfl rfl ?_
  refine JV.ild (p2 := 642) rfl rfl rfl ?_
  refine JV.stk (len := 1) (sem := (s_push (.int 2))) (p2 := 643) rfl rfl rfl ?_
  refine JV.stk (len := 1) (sem := s_iadd) (p2 := 644) rfl rfl rfl ?_
  refine JV.sld (p2 := 645) (a := 5 * j + 2) rfl (nI_addE rfl rfl) (by omega) hL rfl ?_
  refine JV.ald (p2 := 646) rfl rfl rfl ?_
  refine JV.ins (p2 := 649) (rv := some (.int ((x_X7_aircraft μ (xs (5 * j + 1)) (xs (5 * j + 2))).1 0 0 1))) rfl (Nat.le_of_ble_eq_true rfl) rfl rfl (Nat.le_of_ble_eq_true rfl) rfl ev rfl ?_
  refine JV.ist (p2 := 651) rfl rfl rfl ?_
  refine JV.ald (p2 := 652) rfl rfl rfl ?_
  refine JV.ald (p2 := 653) rfl rfl rfl ?_
  refine JV.ild (p2 := 655) rfl rfl rfl ?_
  refine JV.stk (len := 1) (sem := (s_push (.int 1))) (p2 := 656) rfl rfl rfl ?_
  refine JV.stk (len := 1) (sem := s_iadd) (p2 := 657) rfl rfl rfl ?_
  refine JV.sld (p2 := 658) (a := 5 * j + 1) rfl (nI_addE rfl rfl) (by omega) hL rfl ?_
  refine JV.ald (p2 := 659) rfl rfl rfl ?_
  refine JV.ild (p2 := 661) rfl rfl rfl ?_
  refine JV.stk (len := 1) (sem := (s_push (.int 2))) (p2 := 662) rfl rfl rfl ?_
  refine JV.stk (len := 1) (sem := s_iadd) (p2 := 663) rfl rfl rfl ?_
  refine JV.sld (p2 := 664) (a := 5 * j + 2) rfl (nI_addE rfl rfl) (by omega) hL rfl ?_
  refine JV.invI (p2 := 667) rfl rfl rfl lm_M (Nat.le_of_ble_eq_true rfl) rfl (lm_ev (ev_X7_aircraft (by omega) (mw_self (B := 0) hG.2.1.1) (by decide) hG.2.1.2.1 rfl)) ?_
  refine JV.ist (p2 := 669) rfl rfl rfl ?_
  refine JV.ald (p2 := 670) rfl rfl rfl ?_
  refine JV.invI (p2 := 673) rfl rfl rfl lm_M (Nat.le_of_ble_eq_true rfl) rfl (lm_ev (ev_X7_thrown (by omega) rfl)) ?_
  refine JV.ild (p2 := 675) rfl rfl rfl ?_
  refine JV.brT rfl rfl th_eq ?_
  refine JV.ild (p2 := 682) rfl rfl rfl ?_
  rcases hA with ⟨v, h1, h2, h3⟩ | ⟨E, h1, h2, h3⟩
  · refine JV.brF (p2 := 685) rfl rfl rfl (fun e => e h2) ?_
    refine JV.ald (p2 := 686) rfl rfl rfl ?_
    refine JV.stk (len := 1) (sem := (s_push (.int 0))) (p2 := 687) rfl rfl rfl ?_
    refine JV.lald (p2 := 688) (j := 0) rfl lm_o rfl (by decide) (by decide) rfl ?_
    refine JV.ild (p2 := 690) rfl rfl rfl ?_
    refine JV.stk (len := 1) (sem := s_i2l) (p2 := 691) rfl rfl rfl ?_
    refine JV.stk (len := 1) (sem := s_lcmp) (p2 := 692) rfl rfl rfl ?_
    refine JV.brT rfl rfl (lc_eq0 (by rw [hw v h1, h3])) ?_
    refine JV.goto rfl ?_
    exact JV.keep [0, 1, 2, 3, 4] rfl kk
  · refine JV.brT rfl rfl h3 ?_
    refine JV.goto rfl ?_
    exact JV.keep [0, 1, 2, 3, 4] rfl kk
set_option maxRecDepth 100000 in
theorem lc_8 (hL : L < 2 ^ 31) (hj : 5 * j + 4 < L) (hG : GD B S μ) (hA : AG ct_L_stand (x_X6_stand S (xs (5 * j + 1)) (xs (5 * j + 2))) (x_X7_stand μ (xs (5 * j + 1)) (xs (5 * j + 2)))) (kk : ∀ (c' s' : Nat) (w' : Nat → Int64), c' ≤ c + 1 → s' ≤ s + 6 → ∃ hf, Q hf ∧ JV (Ev mtab mcode 11) (jcL_law L xs) (1335, [(0, .ref 0), (1, .ref 1), (2, .ref 183), (3, .ref 190), (4, .int (nI (5 * j)))], []) (191, c', s', lm S (x_X7_stand μ (xs (5 * j + 1)) (xs (5 * j + 2))).1 w') o hf) : ∃ hf, Q hf ∧ JV (Ev mtab mcode 11) (jcL_law L xs) (700, [(0, .ref 0), (1, .ref 1), (2, .ref 183), (3, .ref 190), (4, .int (nI (5 * j)))], []) (191, c, s, lm S μ w) o hf := by
  obtain ⟨c', s', w', hc, hs, hw, ev⟩ := ev_L_stand (d := 11) (c := c) (s := s) (μ := μ) (w := w) (by omega) hG.1.1 (Nat.lt_of_le_of_lt (by omega) hG.1.2) (show x_X6_stand S (xs (5 * j + 1)) (xs (5 * j + 2)) = x_X6_stand S (xs (5 * j + 1)) (xs (5 * j + 2)) from rfl) hA.k
  obtain ⟨hf, hq, kk⟩ := kk c' s' w' hc hs
  refine ⟨hf, hq, ?_⟩
  refine JV.ald (p2 := 701) rfl rfl rfl ?_
  refine JV.ald (p2 := 702) rfl rfl rfl ?_
  refine JV.ild (p2 := 704) rfl rfl rfl ?_
  refine JV.stk (len := 1) (sem := (s_push (.int 1))) (p2 := 705) rfl rfl rfl ?_
  refine JV.stk (len := 1) (sem := s_iadd) (p2 := 706) rfl rfl rfl ?_
  refine JV.sld (p2 := 707) (a := 5 * j + 1) rfl (nI_addE rfl rfl) (by omega) hL rfl ?_
  refine JV.ald (p2 := 708) rfl rfl rfl ?_
  refine JV.ild (p2 := 710) rfl rfl rfl ?_
  refine JV.stk (len := 1) (sem := (s_push (.int 2))) (p2 := 711) rfl rfl rfl ?_
  refine JV.stk (len := 1) (sem := s_iadd) (p2 := 712) rfl rfl rfl ?_
  refine JV.sld (p2 := 713) (a := 5 * j + 2) rfl (nI_addE rfl rfl) (by omega) hL rfl ?_
  refine JV.ald (p2 := 714) rfl rfl rfl ?_
  refine JV.ins (p2 := 717) (rv := some (.int ((x_X7_stand μ (xs (5 * j + 1)) (xs (5 * j + 2))).1 0 0 1))) rfl (Nat.le_of_ble_eq_true rfl) rfl rfl (Nat.le_of_ble_eq_true rfl) rfl ev rfl ?_
  refine JV.ist (p2 := 719) rfl rfl rfl ?_
  refine JV.ald (p2 := 720) rfl rfl rfl ?_
  refine JV.ald (p2 := 721) rfl rfl rfl ?_
  refine JV.ild (p2 := 723) rfl rfl rfl ?_
  refine JV.stk (len := 1) (sem := (s_push (.int 1))) (p2 := 724) rfl rfl rfl ?_
  refine JV.stk (len := 1) (sem := s_iadd) (p2 := 725) rfl rfl rfl ?_
  refine JV.sld (p2 := 726) (a := 5 * j + 1) rfl (nI_addE rfl rfl) (by omega) hL rfl ?_
  refine JV.ald (p2 := 727) rfl rfl rfl ?_
  refine JV.ild (p2 := 729) rfl rfl rfl ?_
  refine JV.stk (len := 1) (sem := (s_push (.int 2))) (p2 := 730) rfl rfl rfl ?_
  refine JV.stk (len := 1) (sem := s_iadd) (p2 := 731) rfl rfl rfl ?_
  refine JV.sld (p2 := 732) (a := 5 * j + 2) rfl (nI_addE rfl rfl) (by omega) hL rfl ?_
  refine JV.invI (p2 := 735) rfl rfl rfl lm_M (Nat.le_of_ble_eq_true rfl) rfl (lm_ev (ev_X7_stand (by omega) (mw_self (B := 0) hG.2.1.1) (by decide) hG.2.1.2.1 rfl)) ?_
  refine JV.ist (p2 := 737) rfl rfl rfl ?_
  refine JV.ald (p2 := 738) rfl rfl rfl ?_
  refine JV.invI (p2 := 741) rfl rfl rfl lm_M (Nat.le_of_ble_eq_true rfl) rfl (lm_ev (ev_X7_thrown (by omega) rfl)) ?_
  refine JV.ild (p2 := 743) rfl rfl rfl ?_
  refine JV.brT rfl rfl th_eq ?_
  refine JV.ild (p2 := 750) rfl rfl rfl ?_
  rcases hA with ⟨v, h1, h2, h3⟩ | ⟨E, h1, h2, h3⟩
  · refine JV.brF (p2 := 753) rfl rfl rfl (fun e => e h2) ?_
    refine JV.ald (p2 := 754) rfl rfl rfl ?_
    refine JV.stk (len := 1) (sem := (s_push (.int 0))) (p2 := 755) rfl rfl rfl ?_
    refine JV.lald (p2 := 756) (j := 0) rfl lm_o rfl (by decide) (by decide) rfl ?_
    refine JV.ild (p2 := 758) rfl rfl rfl ?_
    refine JV.stk (len := 1) (sem := s_i2l) (p2 := 759) rfl rfl rfl ?_
    refine JV.stk (len := 1) (sem := s_lcmp) (p2 := 760) rfl rfl rfl ?_
    refine JV.brT rfl rfl (lc_eq0 (by rw [hw v h1, h3])) ?_
    refine JV.goto rfl ?_
    exact JV.keep [0, 1, 2, 3, 4] rfl kk
  · refine JV.brT rfl rfl h3 ?_
    refine JV.goto rfl ?_
    exact JV.keep [0, 1, 2, 3, 4] rfl kk
set_option maxRecDepth 100000 in
theorem lc_9 (hL : L < 2 ^ 31) (hj : 5 * j + 4 < L) (hG : GD B S μ) (hA : AG ct_L_tug (x_X6_tug S (xs (5 * j + 1)) (xs (5 * j + 2))) (x_X7_tug μ (xs (5 * j + 1)) (xs (5 * j + 2)))) (kk : ∀ (c' s' : Nat) (w' : Nat → Int64), c' ≤ c + 1 → s' ≤ s + 6 → ∃ hf, Q hf ∧ JV (Ev mtab mcode 11) (jcL_law L xs) (1335, [(0, .ref 0), (1, .ref 1), (2, .ref 183), (3, .ref 190), (4, .int (nI (5 * j)))], []) (191, c', s', lm S (x_X7_tug μ (xs (5 * j + 1)) (xs (5 * j + 2))).1 w') o hf) : ∃ hf, Q hf ∧ JV (Ev mtab mcode 11) (jcL_law L xs) (768, [(0, .ref 0), (1, .ref 1), (2, .ref 183), (3, .ref 190), (4, .int (nI (5 * j)))], []) (191, c, s, lm S μ w) o hf := by
  obtain ⟨c', s', w', hc, hs, hw, ev⟩ := ev_L_tug (d := 11) (c := c) (s := s) (μ := μ) (w := w) (by omega) hG.1.1 (Nat.lt_of_le_of_lt (by omega) hG.1.2) (show x_X6_tug S (xs (5 * j + 1)) (xs (5 * j + 2)) = x_X6_tug S (xs (5 * j + 1)) (xs (5 * j + 2)) from rfl) hA.k
  obtain ⟨hf, hq, kk⟩ := kk c' s' w' hc hs
  refine ⟨hf, hq, ?_⟩
  refine JV.ald (p2 := 769) rfl rfl rfl ?_
  refine JV.ald (p2 := 770) rfl rfl rfl ?_
  refine JV.ild (p2 := 772) rfl rfl rfl ?_
  refine JV.stk (len := 1) (sem := (s_push (.int 1))) (p2 := 773) rfl rfl rfl ?_
  refine JV.stk (len := 1) (sem := s_iadd) (p2 := 774) rfl rfl rfl ?_
  refine JV.sld (p2 := 775) (a := 5 * j + 1) rfl (nI_addE rfl rfl) (by omega) hL rfl ?_
  refine JV.ald (p2 := 776) rfl rfl rfl ?_
  refine JV.ild (p2 := 778) rfl rfl rfl ?_
  refine JV.stk (len := 1) (sem := (s_push (.int 2))) (p2 := 779) rfl rfl rfl ?_
  refine JV.stk (len := 1) (sem := s_iadd) (p2 := 780) rfl rfl rfl ?_
  refine JV.sld (p2 := 781) (a := 5 * j + 2) rfl (nI_addE rfl rfl) (by omega) hL rfl ?_
  refine JV.ald (p2 := 782) rfl rfl rfl ?_
  refine JV.ins (p2 := 785) (rv := some (.int ((x_X7_tug μ (xs (5 * j + 1)) (xs (5 * j + 2))).1 0 0 1))) rfl (Nat.le_of_ble_eq_true rfl) rfl rfl (Nat.le_of_ble_eq_true rfl) rfl ev rfl ?_
  refine JV.ist (p2 := 787) rfl rfl rfl ?_
  refine JV.ald (p2 := 788) rfl rfl rfl ?_
  refine JV.ald (p2 := 789) rfl rfl rfl ?_
  refine JV.ild (p2 := 791) rfl rfl rfl ?_
  refine JV.stk (len := 1) (sem := (s_push (.int 1))) (p2 := 792) rfl rfl rfl ?_
  refine JV.stk (len := 1) (sem := s_iadd) (p2 := 793) rfl rfl rfl ?_
  refine JV.sld (p2 := 794) (a := 5 * j + 1) rfl (nI_addE rfl rfl) (by omega) hL rfl ?_
  refine JV.ald (p2 := 795) rfl rfl rfl ?_
  refine JV.ild (p2 := 797) rfl rfl rfl ?_
  refine JV.stk (len := 1) (sem := (s_push (.int 2))) (p2 := 798) rfl rfl rfl ?_
  refine JV.stk (len := 1) (sem := s_iadd) (p2 := 799) rfl rfl rfl ?_
  refine JV.sld (p2 := 800) (a := 5 * j + 2) rfl (nI_addE rfl rfl) (by omega) hL rfl ?_
  refine JV.invI (p2 := 803) rfl rfl rfl lm_M (Nat.le_of_ble_eq_true rfl) rfl (lm_ev (ev_X7_tug (by omega) (mw_self (B := 0) hG.2.1.1) (by decide) hG.2.1.2.1 rfl)) ?_
  refine JV.ist (p2 := 805) rfl rfl rfl ?_
  refine JV.ald (p2 := 806) rfl rfl rfl ?_
  refine JV.invI (p2 := 809) rfl rfl rfl lm_M (Nat.le_of_ble_eq_true rfl) rfl (lm_ev (ev_X7_thrown (by omega) rfl)) ?_
  refine JV.ild (p2 := 811) rfl rfl rfl ?_
  refine JV.brT rfl rfl th_eq ?_
  refine JV.ild (p2 := 818) rfl rfl rfl ?_
  rcases hA with ⟨v, h1, h2, h3⟩ | ⟨E, h1, h2, h3⟩
  · refine JV.brF (p2 := 821) rfl rfl rfl (fun e => e h2) ?_
    refine JV.ald (p2 := 822) rfl rfl rfl ?_
    refine JV.stk (len := 1) (sem := (s_push (.int 0))) (p2 := 823) rfl rfl rfl ?_
    refine JV.lald (p2 := 824) (j := 0) rfl lm_o rfl (by decide) (by decide) rfl ?_
    refine JV.ild (p2 := 826) rfl rfl rfl ?_
    refine JV.stk (len := 1) (sem := s_i2l) (p2 := 827) rfl rfl rfl ?_
    refine JV.stk (len := 1) (sem := s_lcmp) (p2 := 828) rfl rfl rfl ?_
    refine JV.brT rfl rfl (lc_eq0 (by rw [hw v h1, h3])) ?_
    refine JV.goto rfl ?_
    exact JV.keep [0, 1, 2, 3, 4] rfl kk
  · refine JV.brT rfl rfl h3 ?_
    refine JV.goto rfl ?_
    exact JV.keep [0, 1, 2, 3, 4] rfl kk
set_option maxRecDepth 100000 in
theorem lc_10 (hL : L < 2 ^ 31) (hj : 5 * j + 4 < L) (hG : GD B S μ) (hA : AG ct_L_value (x_X6_value S (xs (5 * j + 1))) (x_X7_value μ (xs (5 * j + 1)))) (kk : ∀ (c' s' : Nat) (w' : Nat → Int64), c' ≤ c + 1 → s' ≤ s + 6 → ∃ hf, Q hf ∧ JV (Ev mtab mcode 11) (jcL_law L xs) (1335, [(0, .ref 0), (1, .ref 1), (2, .ref 183), (3, .ref 190), (4, .int (nI (5 * j)))], []) (191, c', s', lm S (x_X7_value μ (xs (5 * j + 1))).1 w') o hf) : ∃ hf, Q hf ∧ JV (Ev mtab mcode 11) (jcL_law L xs) (836, [(0, .ref 0), (1, .ref 1), (2, .ref 183), (3, .ref 190), (4, .int (nI (5 * j)))], []) (191, c, s, lm S μ w) o hf := by
  obtain ⟨c', s', w', hc, hs, hw, ev⟩ := ev_L_value (d := 11) (c := c) (s := s) (μ := μ) (w := w) (by omega) hG.1.1 (Nat.lt_of_le_of_lt (by omega) hG.1.2) (show x_X6_value S (xs (5 * j + 1)) = x_X6_value S (xs (5 * j + 1)) from rfl) hA.k
  obtain ⟨hf, hq, kk⟩ := kk c' s' w' hc hs
  refine ⟨hf, hq, ?_⟩
  refine JV.ald (p2 := 837) rfl rfl rfl ?_
  refine JV.ald (p2 := 838) rfl rfl rfl ?_
  refine JV.ild (p2 := 840) rfl rfl rfl ?_
  refine JV.stk (len := 1) (sem := (s_push (.int 1))) (p2 := 841) rfl rfl rfl ?_
  refine JV.stk (len := 1) (sem := s_iadd) (p2 := 842) rfl rfl rfl ?_
  refine JV.sld (p2 := 843) (a := 5 * j + 1) rfl (nI_addE rfl rfl) (by omega) hL rfl ?_
  refine JV.ald (p2 := 844) rfl rfl rfl ?_
  refine JV.ins (p2 := 847) (rv := some (.int ((x_X7_value μ (xs (5 * j + 1))).1 0 0 1))) rfl (Nat.le_of_ble_eq_true rfl) rfl rfl (Nat.le_of_ble_eq_true rfl) rfl ev rfl ?_
  refine JV.ist (p2 := 849) rfl rfl rfl ?_
  refine JV.ald (p2 := 850) rfl rfl rfl ?_
  refine JV.ald (p2 := 851) rfl rfl rfl ?_
  refine JV.ild (p2 := 853) rfl rfl rfl ?_
  refine JV.stk (len := 1) (sem := (s_push (.int 1))) (p2 := 854) rfl rfl rfl ?_
  refine JV.stk (len := 1) (sem := s_iadd) (p2 := 855) rfl rfl rfl ?_
  refine JV.sld (p2 := 856) (a := 5 * j + 1) rfl (nI_addE rfl rfl) (by omega) hL rfl ?_
  refine JV.invI (p2 := 859) rfl rfl rfl lm_M (Nat.le_of_ble_eq_true rfl) rfl (lm_ev (ev_X7_value (by omega) (mw_self (B := 0) hG.2.1.1) (by decide) rfl)) ?_
  refine JV.ist (p2 := 861) rfl rfl rfl ?_
  refine JV.ald (p2 := 862) rfl rfl rfl ?_
  refine JV.invI (p2 := 865) rfl rfl rfl lm_M (Nat.le_of_ble_eq_true rfl) rfl (lm_ev (ev_X7_thrown (by omega) rfl)) ?_
  refine JV.ild (p2 := 867) rfl rfl rfl ?_
  refine JV.brT rfl rfl th_eq ?_
  refine JV.ild (p2 := 874) rfl rfl rfl ?_
  rcases hA with ⟨v, h1, h2, h3⟩ | ⟨E, h1, h2, h3⟩
  · refine JV.brF (p2 := 877) rfl rfl rfl (fun e => e h2) ?_
    refine JV.ald (p2 := 878) rfl rfl rfl ?_
    refine JV.stk (len := 1) (sem := (s_push (.int 0))) (p2 := 879) rfl rfl rfl ?_
    refine JV.lald (p2 := 880) (j := 0) rfl lm_o rfl (by decide) (by decide) rfl ?_
    refine JV.ild (p2 := 882) rfl rfl rfl ?_
    refine JV.stk (len := 1) (sem := s_i2l) (p2 := 883) rfl rfl rfl ?_
    refine JV.stk (len := 1) (sem := s_lcmp) (p2 := 884) rfl rfl rfl ?_
    refine JV.brT rfl rfl (lc_eq0 (by rw [hw v h1, h3])) ?_
    refine JV.goto rfl ?_
    exact JV.keep [0, 1, 2, 3, 4] rfl kk
  · refine JV.brT rfl rfl h3 ?_
    refine JV.goto rfl ?_
    exact JV.keep [0, 1, 2, 3, 4] rfl kk
set_option maxRecDepth 100000 in
theorem lc_11 (hL : L < 2 ^ 31) (hj : 5 * j + 4 < L) (hG : GD B S μ) (hA : AG ct_L_event (x_X6_event S (xs (5 * j + 1)) (xs (5 * j + 2))) (x_X7_event μ (xs (5 * j + 1)) (xs (5 * j + 2)))) (kk : ∀ (c' s' : Nat) (w' : Nat → Int64), c' ≤ c + 1 → s' ≤ s + 6 → ∃ hf, Q hf ∧ JV (Ev mtab mcode 11) (jcL_law L xs) (1335, [(0, .ref 0), (1, .ref 1), (2, .ref 183), (3, .ref 190), (4, .int (nI (5 * j)))], []) (191, c', s', lm S (x_X7_event μ (xs (5 * j + 1)) (xs (5 * j + 2))).1 w') o hf) : ∃ hf, Q hf ∧ JV (Ev mtab mcode 11) (jcL_law L xs) (892, [(0, .ref 0), (1, .ref 1), (2, .ref 183), (3, .ref 190), (4, .int (nI (5 * j)))], []) (191, c, s, lm S μ w) o hf := by
  obtain ⟨c', s', w', hc, hs, hw, ev⟩ := ev_L_event (d := 11) (c := c) (s := s) (μ := μ) (w := w) (by omega) hG.1.1 (Nat.lt_of_le_of_lt (by omega) hG.1.2) (show x_X6_event S (xs (5 * j + 1)) (xs (5 * j + 2)) = x_X6_event S (xs (5 * j + 1)) (xs (5 * j + 2)) from rfl) hA.k
  obtain ⟨hf, hq, kk⟩ := kk c' s' w' hc hs
  refine ⟨hf, hq, ?_⟩
  refine JV.ald (p2 := 893) rfl rfl rfl ?_
  refine JV.ald (p2 := 894) rfl rfl rfl ?_
  refine JV.ild (p2 := 896) rfl rfl rfl ?_
  refine JV.stk (len := 1) (sem := (s_push (.int 1))) (p2 := 897) rfl rfl rfl ?_
  refine JV.stk (len := 1) (sem := s_iadd) (p2 := 898) rfl rfl rfl ?_
  refine JV.sld (p2 := 899) (a := 5 * j + 1) rfl (nI_addE rfl rfl) (by omega) hL rfl ?_
  refine JV.ald (p2 := 900) rfl rfl rfl ?_
  refine JV.ild (p2 := 902) rfl rfl rfl ?_
  refine JV.stk (len := 1) (sem := (s_push (.int 2))) (p2 := 903) rfl rfl rfl ?_
  refine JV.stk (len := 1) (sem := s_iadd) (p2 := 904) rfl rfl rfl ?_
  refine JV.sld (p2 := 905) (a := 5 * j + 2) rfl (nI_addE rfl rfl) (by omega) hL rfl ?_
  refine JV.ald (p2 := 906) rfl rfl rfl ?_
  refine JV.ins (p2 := 909) (rv := some (.int ((x_X7_event μ (xs (5 * j + 1)) (xs (5 * j + 2))).1 0 0 1))) rfl (Nat.le_of_ble_eq_true rfl) rfl rfl (Nat.le_of_ble_eq_true rfl) rfl ev rfl ?_
  refine JV.ist (p2 := 911) rfl rfl rfl ?_
  refine JV.ald (p2 := 912) rfl rfl rfl ?_
  refine JV.ald (p2 := 913) rfl rfl rfl ?_
  refine JV.ild (p2 := 915) rfl rfl rfl ?_
  refine JV.stk (len := 1) (sem := (s_push (.int 1))) (p2 := 916) rfl rfl rfl ?_
  refine JV.stk (len := 1) (sem := s_iadd) (p2 := 917) rfl rfl rfl ?_
  refine JV.sld (p2 := 918) (a := 5 * j + 1) rfl (nI_addE rfl rfl) (by omega) hL rfl ?_
  refine JV.ald (p2 := 919) rfl rfl rfl ?_
  refine JV.ild (p2 := 921) rfl rfl rfl ?_
  refine JV.stk (len := 1) (sem := (s_push (.int 2))) (p2 := 922) rfl rfl rfl ?_
  refine JV.stk (len := 1) (sem := s_iadd) (p2 := 923) rfl rfl rfl ?_
  refine JV.sld (p2 := 924) (a := 5 * j + 2) rfl (nI_addE rfl rfl) (by omega) hL rfl ?_
  refine JV.invI (p2 := 927) rfl rfl rfl lm_M (Nat.le_of_ble_eq_true rfl) rfl (lm_ev (ev_X7_event (by omega) (mw_self (B := 0) hG.2.1.1) (by decide) rfl)) ?_
  refine JV.ist (p2 := 929) rfl rfl rfl ?_
  refine JV.ald (p2 := 930) rfl rfl rfl ?_
  refine JV.invI (p2 := 933) rfl rfl rfl lm_M (Nat.le_of_ble_eq_true rfl) rfl (lm_ev (ev_X7_thrown (by omega) rfl)) ?_
  refine JV.ild (p2 := 935) rfl rfl rfl ?_
  refine JV.brT rfl rfl th_eq ?_
  refine JV.ild (p2 := 942) rfl rfl rfl ?_
  rcases hA with ⟨v, h1, h2, h3⟩ | ⟨E, h1, h2, h3⟩
  · refine JV.brF (p2 := 945) rfl rfl rfl (fun e => e h2) ?_
    refine JV.ald (p2 := 946) rfl rfl rfl ?_
    refine JV.stk (len := 1) (sem := (s_push (.int 0))) (p2 := 947) rfl rfl rfl ?_
    refine JV.lald (p2 := 948) (j := 0) rfl lm_o rfl (by decide) (by decide) rfl ?_
    refine JV.ild (p2 := 950) rfl rfl rfl ?_
    refine JV.stk (len := 1) (sem := s_i2l) (p2 := 951) rfl rfl rfl ?_
    refine JV.stk (len := 1) (sem := s_lcmp) (p2 := 952) rfl rfl rfl ?_
    refine JV.brT rfl rfl (lc_eq0 (by rw [hw v h1, h3])) ?_
    refine JV.goto rfl ?_
    exact JV.keep [0, 1, 2, 3, 4] rfl kk
  · refine JV.brT rfl rfl h3 ?_
    refine JV.goto rfl ?_
    exact JV.keep [0, 1, 2, 3, 4] rfl kk
set_option maxRecDepth 100000 in
theorem lc_12 (hL : L < 2 ^ 31) (hj : 5 * j + 4 < L) (hG : GD B S μ) (hA : AG ct_L_why (x_X6_why S (xs (5 * j + 1))) (x_X7_why μ (xs (5 * j + 1)))) (kk : ∀ (c' s' : Nat) (w' : Nat → Int64), c' ≤ c + 1 → s' ≤ s + 6 → ∃ hf, Q hf ∧ JV (Ev mtab mcode 11) (jcL_law L xs) (1335, [(0, .ref 0), (1, .ref 1), (2, .ref 183), (3, .ref 190), (4, .int (nI (5 * j)))], []) (191, c', s', lm S (x_X7_why μ (xs (5 * j + 1))).1 w') o hf) : ∃ hf, Q hf ∧ JV (Ev mtab mcode 11) (jcL_law L xs) (960, [(0, .ref 0), (1, .ref 1), (2, .ref 183), (3, .ref 190), (4, .int (nI (5 * j)))], []) (191, c, s, lm S μ w) o hf := by
  obtain ⟨c', s', w', hc, hs, hw, ev⟩ := ev_L_why (d := 11) (c := c) (s := s) (μ := μ) (w := w) (by omega) hG.1.1 (Nat.lt_of_le_of_lt (by omega) hG.1.2) (show x_X6_why S (xs (5 * j + 1)) = x_X6_why S (xs (5 * j + 1)) from rfl) hA.k
  obtain ⟨hf, hq, kk⟩ := kk c' s' w' hc hs
  refine ⟨hf, hq, ?_⟩
  refine JV.ald (p2 := 961) rfl rfl rfl ?_
  refine JV.ald (p2 := 962) rfl rfl rfl ?_
  refine JV.ild (p2 := 964) rfl rfl rfl ?_
  refine JV.stk (len := 1) (sem := (s_push (.int 1))) (p2 := 965) rfl rfl rfl ?_
  refine JV.stk (len := 1) (sem := s_iadd) (p2 := 966) rfl rfl rfl ?_
  refine JV.sld (p2 := 967) (a := 5 * j + 1) rfl (nI_addE rfl rfl) (by omega) hL rfl ?_
  refine JV.ald (p2 := 968) rfl rfl rfl ?_
  refine JV.ins (p2 := 971) (rv := some (.int ((x_X7_why μ (xs (5 * j + 1))).1 0 0 1))) rfl (Nat.le_of_ble_eq_true rfl) rfl rfl (Nat.le_of_ble_eq_true rfl) rfl ev rfl ?_
  refine JV.ist (p2 := 973) rfl rfl rfl ?_
  refine JV.ald (p2 := 974) rfl rfl rfl ?_
  refine JV.ald (p2 := 975) rfl rfl rfl ?_
  refine JV.ild (p2 := 977) rfl rfl rfl ?_
  refine JV.stk (len := 1) (sem := (s_push (.int 1))) (p2 := 978) rfl rfl rfl ?_
  refine JV.stk (len := 1) (sem := s_iadd) (p2 := 979) rfl rfl rfl ?_
  refine JV.sld (p2 := 980) (a := 5 * j + 1) rfl (nI_addE rfl rfl) (by omega) hL rfl ?_
  refine JV.invI (p2 := 983) rfl rfl rfl lm_M (Nat.le_of_ble_eq_true rfl) rfl (lm_ev (ev_X7_why (by omega) (mw_self (B := 0) hG.2.1.1) (by decide) rfl)) ?_
  refine JV.ist (p2 := 985) rfl rfl rfl ?_
  refine JV.ald (p2 := 986) rfl rfl rfl ?_
  refine JV.invI (p2 := 989) rfl rfl rfl lm_M (Nat.le_of_ble_eq_true rfl) rfl (lm_ev (ev_X7_thrown (by omega) rfl)) ?_
  refine JV.ild (p2 := 991) rfl rfl rfl ?_
  refine JV.brT rfl rfl th_eq ?_
  refine JV.ild (p2 := 998) rfl rfl rfl ?_
  rcases hA with ⟨v, h1, h2, h3⟩ | ⟨E, h1, h2, h3⟩
  · refine JV.brF (p2 := 1001) rfl rfl rfl (fun e => e h2) ?_
    refine JV.ald (p2 := 1002) rfl rfl rfl ?_
    refine JV.stk (len := 1) (sem := (s_push (.int 0))) (p2 := 1003) rfl rfl rfl ?_
    refine JV.lald (p2 := 1004) (j := 0) rfl lm_o rfl (by decide) (by decide) rfl ?_
    refine JV.ild (p2 := 1006) rfl rfl rfl ?_
    refine JV.stk (len := 1) (sem := s_i2l) (p2 := 1007) rfl rfl rfl ?_
    refine JV.stk (len := 1) (sem := s_lcmp) (p2 := 1008) rfl rfl rfl ?_
    refine JV.brT rfl rfl (lc_eq0 (by rw [hw v h1, h3])) ?_
    refine JV.goto rfl ?_
    exact JV.keep [0, 1, 2, 3, 4] rfl kk
  · refine JV.brT rfl rfl h3 ?_
    refine JV.goto rfl ?_
    exact JV.keep [0, 1, 2, 3, 4] rfl kk
set_option maxRecDepth 100000 in
theorem lc_13 (hL : L < 2 ^ 31) (hj : 5 * j + 4 < L) (hG : GD B S μ) (hA : AG ct_L_delayOf (x_X6_delayOf S (xs (5 * j + 1))).2 (x_X7_delayOf μ (xs (5 * j + 1)))) (kk : ∀ (c' s' : Nat) (w' : Nat → Int64), c' ≤ c + 1 → s' ≤ s + 6 → ∃ hf, Q hf ∧ JV (Ev mtab mcode 11) (jcL_law L xs) (1335, [(0, .ref 0), (1, .ref 1), (2, .ref 183), (3, .ref 190), (4, .int (nI (5 * j)))], []) (191, c', s', lm (jS (x_X6_delayOf S (xs (5 * j + 1))).2 S (x_X6_delayOf S (xs (5 * j + 1))).1) (x_X7_delayOf μ (xs (5 * j + 1))).1 w') o hf) : ∃ hf, Q hf ∧ JV (Ev mtab mcode 11) (jcL_law L xs) (1016, [(0, .ref 0), (1, .ref 1), (2, .ref 183), (3, .ref 190), (4, .int (nI (5 * j)))], []) (191, c, s, lm S μ w) o hf := by
  obtain ⟨c', s', w', hc, hs, hw, ev⟩ := ev_L_delayOf (d := 11) (c := c) (s := s) (μ := μ) (w := w) (by omega) hG.1.1 (Nat.lt_of_le_of_lt (by omega) hG.1.2) (show x_X6_delayOf S (xs (5 * j + 1)) = x_X6_delayOf S (xs (5 * j + 1)) from rfl) hA.k
  obtain ⟨hf, hq, kk⟩ := kk c' s' w' hc hs
  refine ⟨hf, hq, ?_⟩
  refine JV.ald (p2 := 1017) rfl rfl rfl ?_
  refine JV.ald (p2 := 1018) rfl rfl rfl ?_
  refine JV.ild (p2 := 1020) rfl rfl rfl ?_
  refine JV.stk (len := 1) (sem := (s_push (.int 1))) (p2 := 1021) rfl rfl rfl ?_
  refine JV.stk (len := 1) (sem := s_iadd) (p2 := 1022) rfl rfl rfl ?_
  refine JV.sld (p2 := 1023) (a := 5 * j + 1) rfl (nI_addE rfl rfl) (by omega) hL rfl ?_
  refine JV.ald (p2 := 1024) rfl rfl rfl ?_
  refine JV.ins (p2 := 1027) (rv := some (.int ((x_X7_delayOf μ (xs (5 * j + 1))).1 0 0 1))) rfl (Nat.le_of_ble_eq_true rfl) rfl rfl (Nat.le_of_ble_eq_true rfl) rfl ev rfl ?_
  refine JV.ist (p2 := 1029) rfl rfl rfl ?_
  refine JV.ald (p2 := 1030) rfl rfl rfl ?_
  refine JV.ald (p2 := 1031) rfl rfl rfl ?_
  refine JV.ild (p2 := 1033) rfl rfl rfl ?_
  refine JV.stk (len := 1) (sem := (s_push (.int 1))) (p2 := 1034) rfl rfl rfl ?_
  refine JV.stk (len := 1) (sem := s_iadd) (p2 := 1035) rfl rfl rfl ?_
  refine JV.sld (p2 := 1036) (a := 5 * j + 1) rfl (nI_addE rfl rfl) (by omega) hL rfl ?_
  refine JV.invI (p2 := 1039) rfl rfl rfl lm_M (Nat.le_of_ble_eq_true rfl) rfl (lm_ev (ev_X7_delayOf (by omega) (mw_self (B := 0) hG.2.1.1) (by decide) rfl)) ?_
  refine JV.ist (p2 := 1041) rfl rfl rfl ?_
  refine JV.ald (p2 := 1042) rfl rfl rfl ?_
  refine JV.invI (p2 := 1045) rfl rfl rfl lm_M (Nat.le_of_ble_eq_true rfl) rfl (lm_ev (ev_X7_thrown (by omega) rfl)) ?_
  refine JV.ild (p2 := 1047) rfl rfl rfl ?_
  refine JV.brT rfl rfl th_eq ?_
  refine JV.ild (p2 := 1054) rfl rfl rfl ?_
  rcases hA with ⟨v, h1, h2, h3⟩ | ⟨E, h1, h2, h3⟩
  · refine JV.brF (p2 := 1057) rfl rfl rfl (fun e => e h2) ?_
    refine JV.ald (p2 := 1058) rfl rfl rfl ?_
    refine JV.stk (len := 1) (sem := (s_push (.int 0))) (p2 := 1059) rfl rfl rfl ?_
    refine JV.lald (p2 := 1060) (j := 0) rfl lm_o rfl (by decide) (by decide) rfl ?_
    refine JV.ild (p2 := 1062) rfl rfl rfl ?_
    refine JV.stk (len := 1) (sem := s_i2l) (p2 := 1063) rfl rfl rfl ?_
    refine JV.stk (len := 1) (sem := s_lcmp) (p2 := 1064) rfl rfl rfl ?_
    refine JV.brT rfl rfl (lc_eq0 (by rw [hw v h1, h3])) ?_
    refine JV.goto rfl ?_
    exact JV.keep [0, 1, 2, 3, 4] rfl kk
  · refine JV.brT rfl rfl h3 ?_
    refine JV.goto rfl ?_
    exact JV.keep [0, 1, 2, 3, 4] rfl kk
set_option maxRecDepth 100000 in
theorem lc_14 (hL : L < 2 ^ 31) (hj : 5 * j + 4 < L) (hG : GD B S μ) (hA : (x_X6_minutesToAll S).2 = (x_X7_minutesToAll μ).2) (kk : JV (Ev mtab mcode 11) (jcL_law L xs) (1335, [(0, .ref 0), (1, .ref 1), (2, .ref 183), (3, .ref 190), (4, .int (nI (5 * j)))], []) (191, c, s, lm (x_X6_minutesToAll S).1 (x_X7_minutesToAll μ).1 w) o hf) : JV (Ev mtab mcode 11) (jcL_law L xs) (1072, [(0, .ref 0), (1, .ref 1), (2, .ref 183), (3, .ref 190), (4, .int (nI (5 * j)))], []) (191, c, s, lm S μ w) o hf := by
  refine JV.ald (p2 := 1073) rfl rfl rfl ?_
  refine JV.invI (p2 := 1076) rfl rfl rfl sy_X (Nat.le_of_ble_eq_true rfl) rfl (ev_X6_minutesToAll (by omega) hG.1.1 (Nat.lt_of_le_of_lt (by omega) hG.1.2) rfl) ?_
  refine JV.ald (p2 := 1077) rfl rfl rfl ?_
  refine JV.invI (p2 := 1080) rfl rfl rfl lm_M (Nat.le_of_ble_eq_true rfl) rfl (lm_ev (ev_X7_minutesToAll (by omega) (mw_self (B := 0) hG.2.1.1) (by decide) rfl)) ?_
  refine JV.brT rfl rfl hA ?_
  exact kk
set_option maxRecDepth 100000 in
theorem lc_15 (hL : L < 2 ^ 31) (hj : 5 * j + 4 < L) (hG : GD B S μ) (hA : AG ct_L_delaysWithTug (x_X6_delaysWithTug S (xs (5 * j + 1))).2 (x_X7_delaysWithTug μ (xs (5 * j + 1)))) (kk : ∀ (c' s' : Nat) (w' : Nat → Int64), c' ≤ c + 1 → s' ≤ s + 6 → ∃ hf, Q hf ∧ JV (Ev mtab mcode 11) (jcL_law L xs) (1335, [(0, .ref 0), (1, .ref 1), (2, .ref 183), (3, .ref 190), (4, .int (nI (5 * j)))], []) (191, c', s', lm (jS (x_X6_delaysWithTug S (xs (5 * j + 1))).2 S (x_X6_delaysWithTug S (xs (5 * j + 1))).1) (x_X7_delaysWithTug μ (xs (5 * j + 1))).1 w') o hf) : ∃ hf, Q hf ∧ JV (Ev mtab mcode 11) (jcL_law L xs) (1085, [(0, .ref 0), (1, .ref 1), (2, .ref 183), (3, .ref 190), (4, .int (nI (5 * j)))], []) (191, c, s, lm S μ w) o hf := by
  obtain ⟨c', s', w', hc, hs, hw, ev⟩ := ev_L_delaysWithTug (d := 11) (c := c) (s := s) (μ := μ) (w := w) (by omega) hG.1.1 (Nat.lt_of_le_of_lt (by omega) hG.1.2) (show x_X6_delaysWithTug S (xs (5 * j + 1)) = x_X6_delaysWithTug S (xs (5 * j + 1)) from rfl) hA.k
  obtain ⟨hf, hq, kk⟩ := kk c' s' w' hc hs
  refine ⟨hf, hq, ?_⟩
  refine JV.ald (p2 := 1086) rfl rfl rfl ?_
  refine JV.ald (p2 := 1087) rfl rfl rfl ?_
  refine JV.ild (p2 := 1089) rfl rfl rfl ?_
  refine JV.stk (len := 1) (sem := (s_push (.int 1))) (p2 := 1090) rfl rfl rfl ?_
  refine JV.stk (len := 1) (sem := s_iadd) (p2 := 1091) rfl rfl rfl ?_
  refine JV.sld (p2 := 1092) (a := 5 * j + 1) rfl (nI_addE rfl rfl) (by omega) hL rfl ?_
  refine JV.ald (p2 := 1093) rfl rfl rfl ?_
  refine JV.ins (p2 := 1096) (rv := some (.int ((x_X7_delaysWithTug μ (xs (5 * j + 1))).1 0 0 1))) rfl (Nat.le_of_ble_eq_true rfl) rfl rfl (Nat.le_of_ble_eq_true rfl) rfl ev rfl ?_
  refine JV.ist (p2 := 1098) rfl rfl rfl ?_
  refine JV.ald (p2 := 1099) rfl rfl rfl ?_
  refine JV.ald (p2 := 1100) rfl rfl rfl ?_
  refine JV.ild (p2 := 1102) rfl rfl rfl ?_
  refine JV.stk (len := 1) (sem := (s_push (.int 1))) (p2 := 1103) rfl rfl rfl ?_
  refine JV.stk (len := 1) (sem := s_iadd) (p2 := 1104) rfl rfl rfl ?_
  refine JV.sld (p2 := 1105) (a := 5 * j + 1) rfl (nI_addE rfl rfl) (by omega) hL rfl ?_
  refine JV.invI (p2 := 1108) rfl rfl rfl lm_M (Nat.le_of_ble_eq_true rfl) rfl (lm_ev (ev_X7_delaysWithTug (by omega) (mw_self (B := 0) hG.2.1.1) (by decide) rfl)) ?_
  refine JV.ist (p2 := 1110) rfl rfl rfl ?_
  refine JV.ald (p2 := 1111) rfl rfl rfl ?_
  refine JV.invI (p2 := 1114) rfl rfl rfl lm_M (Nat.le_of_ble_eq_true rfl) rfl (lm_ev (ev_X7_thrown (by omega) rfl)) ?_
  refine JV.ild (p2 := 1116) rfl rfl rfl ?_
  refine JV.brT rfl rfl th_eq ?_
  refine JV.ild (p2 := 1123) rfl rfl rfl ?_
  rcases hA with ⟨v, h1, h2, h3⟩ | ⟨E, h1, h2, h3⟩
  · refine JV.brF (p2 := 1126) rfl rfl rfl (fun e => e h2) ?_
    refine JV.ald (p2 := 1127) rfl rfl rfl ?_
    refine JV.stk (len := 1) (sem := (s_push (.int 0))) (p2 := 1128) rfl rfl rfl ?_
    refine JV.lald (p2 := 1129) (j := 0) rfl lm_o rfl (by decide) (by decide) rfl ?_
    refine JV.ild (p2 := 1131) rfl rfl rfl ?_
    refine JV.stk (len := 1) (sem := s_i2l) (p2 := 1132) rfl rfl rfl ?_
    refine JV.stk (len := 1) (sem := s_lcmp) (p2 := 1133) rfl rfl rfl ?_
    refine JV.brT rfl rfl (lc_eq0 (by rw [hw v h1, h3])) ?_
    refine JV.goto rfl ?_
    exact JV.keep [0, 1, 2, 3, 4] rfl kk
  · refine JV.brT rfl rfl h3 ?_
    refine JV.goto rfl ?_
    exact JV.keep [0, 1, 2, 3, 4] rfl kk
set_option maxRecDepth 100000 in
theorem lc_16 (hL : L < 2 ^ 31) (hj : 5 * j + 4 < L) (hG : GD B S μ) (hA : (x_X6_bestStand S).2 = (x_X7_bestStand μ).2) (kk : JV (Ev mtab mcode 11) (jcL_law L xs) (1335, [(0, .ref 0), (1, .ref 1), (2, .ref 183), (3, .ref 190), (4, .int (nI (5 * j)))], []) (191, c, s, lm (x_X6_bestStand S).1 (x_X7_bestStand μ).1 w) o hf) : JV (Ev mtab mcode 11) (jcL_law L xs) (1141, [(0, .ref 0), (1, .ref 1), (2, .ref 183), (3, .ref 190), (4, .int (nI (5 * j)))], []) (191, c, s, lm S μ w) o hf := by
  refine JV.ald (p2 := 1142) rfl rfl rfl ?_
  refine JV.invI (p2 := 1145) rfl rfl rfl sy_X (Nat.le_of_ble_eq_true rfl) rfl (ev_X6_bestStand (by omega) hG.1.1 (Nat.lt_of_le_of_lt (by omega) hG.1.2) rfl) ?_
  refine JV.ald (p2 := 1146) rfl rfl rfl ?_
  refine JV.invI (p2 := 1149) rfl rfl rfl lm_M (Nat.le_of_ble_eq_true rfl) rfl (lm_ev (ev_X7_bestStand (by omega) (mw_self (B := 0) hG.2.1.1) (by decide) rfl)) ?_
  refine JV.brT rfl rfl hA ?_
  exact kk
theorem dc_eq {x : UInt64} (h : FP.Core.dIsNaN x = false) : Op.cmpValue (FP.dcmp x x) .l = 0 := by
  rw [show FP.dcmp x x = some .eq from FP.Core.dcmp_refl h]
  rfl
set_option maxRecDepth 100000 in
theorem lc_17 (hL : L < 2 ^ 31) (hj : 5 * j + 4 < L) (hG : GD B S μ) (hn : FP.Core.dIsNaN (x_X6_used S) = false) (hA : (x_X6_used S) = (x_X7_used μ).2) (kk : JV (Ev mtab mcode 11) (jcL_law L xs) (1335, [(0, .ref 0), (1, .ref 1), (2, .ref 183), (3, .ref 190), (4, .int (nI (5 * j)))], []) (191, c, s, lm S (x_X7_used μ).1 w) o hf) : JV (Ev mtab mcode 11) (jcL_law L xs) (1154, [(0, .ref 0), (1, .ref 1), (2, .ref 183), (3, .ref 190), (4, .int (nI (5 * j)))], []) (191, c, s, lm S μ w) o hf := by
  refine JV.ald (p2 := 1155) rfl rfl rfl ?_
  refine JV.invD (p2 := 1158) rfl rfl rfl sy_X (Nat.le_of_ble_eq_true rfl) rfl (ev_X6_used (by omega) hG.1.1.f1 hG.2.2.1.1 hG.2.2.1.2 rfl) ?_
  refine JV.dst (p2 := 1160) rfl rfl rfl ?_
  refine JV.ald (p2 := 1161) rfl rfl rfl ?_
  refine JV.invD (p2 := 1164) rfl rfl rfl lm_M (Nat.le_of_ble_eq_true rfl) rfl (lm_ev (ev_X7_used (by omega) hG.2.1.1 hG.2.2.2.1 hG.2.2.2.2.1 hG.2.2.2.2.2 rfl)) ?_
  refine JV.dst (p2 := 1166) rfl rfl rfl ?_
  refine JV.dld (p2 := 1168) rfl rfl rfl ?_
  refine JV.dld (p2 := 1170) rfl rfl rfl ?_
  refine JV.stk (len := 1) (sem := (s_dcmp .l)) (p2 := 1171) rfl rfl rfl ?_
  refine JV.brT rfl rfl (by rw [← hA]; exact dc_eq hn) ?_
  refine JV.goto rfl ?_
  exact JV.keep [0, 1, 2, 3, 4] rfl kk
set_option maxRecDepth 100000 in
theorem lc_18 (hL : L < 2 ^ 31) (hj : 5 * j + 4 < L) (hG : GD B S μ) (hA : AG ct_L_append (x_X6_append S (xs (5 * j + 1))).2 (x_X7_append μ (xs (5 * j + 1)))) (kk : ∀ (c' s' : Nat) (w' : Nat → Int64), c' ≤ c + 1 → s' ≤ s + 6 → ∃ hf, Q hf ∧ JV (Ev mtab mcode 11) (jcL_law L xs) (1335, [(0, .ref 0), (1, .ref 1), (2, .ref 183), (3, .ref 190), (4, .int (nI (5 * j)))], []) (191, c', s', lm (jS (x_X6_append S (xs (5 * j + 1))).2 S (x_X6_append S (xs (5 * j + 1))).1) (x_X7_append μ (xs (5 * j + 1))).1 w') o hf) : ∃ hf, Q hf ∧ JV (Ev mtab mcode 11) (jcL_law L xs) (1195, [(0, .ref 0), (1, .ref 1), (2, .ref 183), (3, .ref 190), (4, .int (nI (5 * j)))], []) (191, c, s, lm S μ w) o hf := by
  obtain ⟨c', s', w', hc, hs, hw, ev⟩ := ev_L_append (d := 11) (c := c) (s := s) (μ := μ) (w := w) (by omega) hG.1.1 (Nat.lt_of_le_of_lt (by omega) hG.1.2) (show x_X6_append S (xs (5 * j + 1)) = x_X6_append S (xs (5 * j + 1)) from rfl) hA.k
  obtain ⟨hf, hq, kk⟩ := kk c' s' w' hc hs
  refine ⟨hf, hq, ?_⟩
  refine JV.ald (p2 := 1196) rfl rfl rfl ?_
  refine JV.ald (p2 := 1197) rfl rfl rfl ?_
  refine JV.ild (p2 := 1199) rfl rfl rfl ?_
  refine JV.stk (len := 1) (sem := (s_push (.int 1))) (p2 := 1200) rfl rfl rfl ?_
  refine JV.stk (len := 1) (sem := s_iadd) (p2 := 1201) rfl rfl rfl ?_
  refine JV.sld (p2 := 1202) (a := 5 * j + 1) rfl (nI_addE rfl rfl) (by omega) hL rfl ?_
  refine JV.ald (p2 := 1203) rfl rfl rfl ?_
  refine JV.ins (p2 := 1206) (rv := some (.int ((x_X7_append μ (xs (5 * j + 1))).1 0 0 1))) rfl (Nat.le_of_ble_eq_true rfl) rfl rfl (Nat.le_of_ble_eq_true rfl) rfl ev rfl ?_
  refine JV.ist (p2 := 1208) rfl rfl rfl ?_
  refine JV.ald (p2 := 1209) rfl rfl rfl ?_
  refine JV.ald (p2 := 1210) rfl rfl rfl ?_
  refine JV.ild (p2 := 1212) rfl rfl rfl ?_
  refine JV.stk (len := 1) (sem := (s_push (.int 1))) (p2 := 1213) rfl rfl rfl ?_
  refine JV.stk (len := 1) (sem := s_iadd) (p2 := 1214) rfl rfl rfl ?_
  refine JV.sld (p2 := 1215) (a := 5 * j + 1) rfl (nI_addE rfl rfl) (by omega) hL rfl ?_
  refine JV.invI (p2 := 1218) rfl rfl rfl lm_M (Nat.le_of_ble_eq_true rfl) rfl (lm_ev (ev_X7_append (by omega) hG.2.1.2.2 rfl)) ?_
  refine JV.ist (p2 := 1220) rfl rfl rfl ?_
  refine JV.ald (p2 := 1221) rfl rfl rfl ?_
  refine JV.invI (p2 := 1224) rfl rfl rfl lm_M (Nat.le_of_ble_eq_true rfl) rfl (lm_ev (ev_X7_thrown (by omega) rfl)) ?_
  refine JV.ild (p2 := 1226) rfl rfl rfl ?_
  refine JV.brT rfl rfl th_eq ?_
  refine JV.ild (p2 := 1233) rfl rfl rfl ?_
  rcases hA with ⟨v, h1, h2, h3⟩ | ⟨E, h1, h2, h3⟩
  · refine JV.brF (p2 := 1236) rfl rfl rfl (fun e => e h2) ?_
    refine JV.ald (p2 := 1237) rfl rfl rfl ?_
    refine JV.stk (len := 1) (sem := (s_push (.int 0))) (p2 := 1238) rfl rfl rfl ?_
    refine JV.lald (p2 := 1239) (j := 0) rfl lm_o rfl (by decide) (by decide) rfl ?_
    refine JV.ild (p2 := 1241) rfl rfl rfl ?_
    refine JV.stk (len := 1) (sem := s_i2l) (p2 := 1242) rfl rfl rfl ?_
    refine JV.stk (len := 1) (sem := s_lcmp) (p2 := 1243) rfl rfl rfl ?_
    refine JV.brT rfl rfl (lc_eq0 (by rw [hw v h1, h3])) ?_
    refine JV.goto rfl ?_
    exact JV.keep [0, 1, 2, 3, 4] rfl kk
  · refine JV.brT rfl rfl h3 ?_
    refine JV.goto rfl ?_
    exact JV.keep [0, 1, 2, 3, 4] rfl kk
set_option maxRecDepth 100000 in
theorem lc_19 (hL : L < 2 ^ 31) (hj : 5 * j + 4 < L) (hG : GD B S μ) (hA : (x_X6_clearText S).2 = (x_X7_clearText μ).2) (kk : JV (Ev mtab mcode 11) (jcL_law L xs) (1335, [(0, .ref 0), (1, .ref 1), (2, .ref 183), (3, .ref 190), (4, .int (nI (5 * j)))], []) (191, c, s, lm (x_X6_clearText S).1 (x_X7_clearText μ).1 w) o hf) : JV (Ev mtab mcode 11) (jcL_law L xs) (1251, [(0, .ref 0), (1, .ref 1), (2, .ref 183), (3, .ref 190), (4, .int (nI (5 * j)))], []) (191, c, s, lm S μ w) o hf := by
  refine JV.ald (p2 := 1252) rfl rfl rfl ?_
  refine JV.invI (p2 := 1255) rfl rfl rfl sy_X (Nat.le_of_ble_eq_true rfl) rfl (ev_X6_clearText (by omega) hG.1.1 (Nat.lt_of_le_of_lt (by omega) hG.1.2) rfl) ?_
  refine JV.ald (p2 := 1256) rfl rfl rfl ?_
  refine JV.invI (p2 := 1259) rfl rfl rfl lm_M (Nat.le_of_ble_eq_true rfl) rfl (lm_ev (ev_X7_clearText (by omega) rfl)) ?_
  refine JV.brT rfl rfl hA ?_
  exact kk
set_option maxRecDepth 100000 in
theorem lc_20 (hL : L < 2 ^ 31) (hj : 5 * j + 4 < L) (hG : GD B S μ) (hA : (x_X6_parse S).2 = (x_X7_parse μ).2) (kk : JV (Ev mtab mcode 11) (jcL_law L xs) (1335, [(0, .ref 0), (1, .ref 1), (2, .ref 183), (3, .ref 190), (4, .int (nI (5 * j)))], []) (191, c, s, lm (x_X6_parse S).1 (x_X7_parse μ).1 w) o hf) : JV (Ev mtab mcode 11) (jcL_law L xs) (1264, [(0, .ref 0), (1, .ref 1), (2, .ref 183), (3, .ref 190), (4, .int (nI (5 * j)))], []) (191, c, s, lm S μ w) o hf := by
  refine JV.ald (p2 := 1265) rfl rfl rfl ?_
  refine JV.invI (p2 := 1268) rfl rfl rfl sy_X (Nat.le_of_ble_eq_true rfl) rfl (ev_X6_parse (by omega) hG.1.1 (Nat.lt_of_le_of_lt (by omega) hG.1.2) rfl) ?_
  refine JV.ald (p2 := 1269) rfl rfl rfl ?_
  refine JV.invI (p2 := 1272) rfl rfl rfl lm_M (Nat.le_of_ble_eq_true rfl) rfl (lm_ev (ev_X7_parse (by omega) (mw_self (B := 0) hG.2.1.1) (by decide) hG.2.1.2.1 hG.2.1.2.2 rfl)) ?_
  refine JV.brT rfl rfl hA ?_
  exact kk
set_option maxRecDepth 100000 in
theorem lc_21 (hL : L < 2 ^ 31) (hj : 5 * j + 4 < L) (hG : GD B S μ) (hA : AG ct_L_undo (x_X6_undo S).2 (x_X7_undo μ)) (kk : ∀ (c' s' : Nat) (w' : Nat → Int64), c' ≤ c + 1 → s' ≤ s + 6 → ∃ hf, Q hf ∧ JV (Ev mtab mcode 11) (jcL_law L xs) (1335, [(0, .ref 0), (1, .ref 1), (2, .ref 183), (3, .ref 190), (4, .int (nI (5 * j)))], []) (191, c', s', lm (jS (x_X6_undo S).2 S (x_X6_undo S).1) (x_X7_undo μ).1 w') o hf) : ∃ hf, Q hf ∧ JV (Ev mtab mcode 11) (jcL_law L xs) (1277, [(0, .ref 0), (1, .ref 1), (2, .ref 183), (3, .ref 190), (4, .int (nI (5 * j)))], []) (191, c, s, lm S μ w) o hf := by
  obtain ⟨c', s', w', hc, hs, hw, ev⟩ := ev_L_undo (d := 11) (c := c) (s := s) (μ := μ) (w := w) (by omega) hG.1.1 (show x_X6_undo S = x_X6_undo S from rfl) hA.k
  obtain ⟨hf, hq, kk⟩ := kk c' s' w' hc hs
  refine ⟨hf, hq, ?_⟩
  refine JV.ald (p2 := 1278) rfl rfl rfl ?_
  refine JV.ald (p2 := 1279) rfl rfl rfl ?_
  refine JV.ins (p2 := 1282) (rv := some (.int ((x_X7_undo μ).1 0 0 1))) rfl (Nat.le_of_ble_eq_true rfl) rfl rfl (Nat.le_of_ble_eq_true rfl) rfl ev rfl ?_
  refine JV.ist (p2 := 1284) rfl rfl rfl ?_
  refine JV.ald (p2 := 1285) rfl rfl rfl ?_
  refine JV.invI (p2 := 1288) rfl rfl rfl lm_M (Nat.le_of_ble_eq_true rfl) rfl (lm_ev (ev_X7_undo (by omega) hG.2.1.2.1 rfl)) ?_
  refine JV.ist (p2 := 1290) rfl rfl rfl ?_
  refine JV.ald (p2 := 1291) rfl rfl rfl ?_
  refine JV.invI (p2 := 1294) rfl rfl rfl lm_M (Nat.le_of_ble_eq_true rfl) rfl (lm_ev (ev_X7_thrown (by omega) rfl)) ?_
  refine JV.ild (p2 := 1296) rfl rfl rfl ?_
  refine JV.brT rfl rfl th_eq ?_
  refine JV.ild (p2 := 1303) rfl rfl rfl ?_
  rcases hA with ⟨v, h1, h2, h3⟩ | ⟨E, h1, h2, h3⟩
  · refine JV.brF (p2 := 1306) rfl rfl rfl (fun e => e h2) ?_
    refine JV.ald (p2 := 1307) rfl rfl rfl ?_
    refine JV.stk (len := 1) (sem := (s_push (.int 0))) (p2 := 1308) rfl rfl rfl ?_
    refine JV.lald (p2 := 1309) (j := 0) rfl lm_o rfl (by decide) (by decide) rfl ?_
    refine JV.ild (p2 := 1311) rfl rfl rfl ?_
    refine JV.stk (len := 1) (sem := s_i2l) (p2 := 1312) rfl rfl rfl ?_
    refine JV.stk (len := 1) (sem := s_lcmp) (p2 := 1313) rfl rfl rfl ?_
    refine JV.brT rfl rfl (lc_eq0 (by rw [hw v h1, h3])) ?_
    refine JV.goto rfl ?_
    exact JV.keep [0, 1, 2, 3, 4] rfl kk
  · refine JV.brT rfl rfl h3 ?_
    refine JV.goto rfl ?_
    exact JV.keep [0, 1, 2, 3, 4] rfl kk
set_option maxRecDepth 100000 in
theorem lc_22 (hL : L < 2 ^ 31) (hj : 5 * j + 4 < L) (hG : GD B S μ) (hA : (x_X6_digest S).2 = (x_X7_digest μ).2) (kk : JV (Ev mtab mcode 11) (jcL_law L xs) (1335, [(0, .ref 0), (1, .ref 1), (2, .ref 183), (3, .ref 190), (4, .int (nI (5 * j)))], []) (191, c, s, lm (x_X6_digest S).1 (x_X7_digest μ).1 w) o hf) : JV (Ev mtab mcode 11) (jcL_law L xs) (1321, [(0, .ref 0), (1, .ref 1), (2, .ref 183), (3, .ref 190), (4, .int (nI (5 * j)))], []) (191, c, s, lm S μ w) o hf := by
  refine JV.ald (p2 := 1322) rfl rfl rfl ?_
  refine JV.invL (p2 := 1325) rfl rfl rfl sy_X (Nat.le_of_ble_eq_true rfl) rfl (ev_X6_digest (by omega) hG.1.1 (Nat.lt_of_le_of_lt (by omega) hG.1.2) rfl) ?_
  refine JV.ald (p2 := 1326) rfl rfl rfl ?_
  refine JV.invL (p2 := 1329) rfl rfl rfl lm_M (Nat.le_of_ble_eq_true rfl) rfl (lm_ev (ev_X7_digest (by omega) (mw_self (B := 0) hG.2.1.1) (by decide) rfl)) ?_
  refine JV.stk (len := 1) (sem := s_lcmp) (p2 := 1330) rfl rfl rfl ?_
  refine JV.brT rfl rfl (lc_eq0 hA) ?_
  exact kk
end LAW
