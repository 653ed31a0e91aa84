/-! a field's constructor -/
theorem JR.mem {E : JE} {cd : List (Nat × JA)} {f : JF} {n c s : Nat} {hf : JH} {o : JO} {M M' : JM} (e : M = M') (kk : JR E cd f (n, c, s, M') o hf) : JR E cd f (n, c, s, M) o hf := by
  rw [e]
  exact kk
theorem jf1 {n b q p : Nat} (h : q < n) (g : b < n) : jfr n (p, [(0, .ref b)], [.ref q, .ref b]) = true := by simp [jfr, vfb, h, g]
def cRk (t n q k : Nat) : JC := .inl (t, n, .inr (.inr (.inr (.inr fun i => if i < k then some (q + i) else none))))
def fi (b k1 k2 k3 : Nat) (M : JM) : JM := fun q => if q = b then cF b z1 else if q = b + 1 then cRk 3 6 (b + 8) k1 else if q = b + 2 then cRk 4 3 (b + 14) k2 else if q = b + 3 then cRk 5 12 (b + 17) k3 else if q = b + 4 then cG b z1 else if b + 5 ≤ q ∧ q < b + 8 then cI 30 z1 else if b + 8 ≤ q ∧ q < b + 8 + k1 then cS z1 else if b + 14 ≤ q ∧ q < b + 14 + k2 then cT z1 else if b + 17 ≤ q ∧ q < b + 17 + k3 then cA z1 else M q
section FIS
variable {d n c s b q k k1 k2 k3 : Nat} {M : JM} {o : JO} {hf : JH}
theorem fi_F : fi b k1 k2 k3 M b = cF b z1 := if_pos rfl
theorem fi_1 : fi b k1 k2 k3 M (b + 1) = cRk 3 6 (b + 8) k1 := by
  unfold fi
  rw [if_neg (by omega), if_pos rfl]
theorem fi_2 : fi b k1 k2 k3 M (b + 2) = cRk 4 3 (b + 14) k2 := by
  unfold fi
  rw [if_neg (by omega), if_neg (by omega), if_pos rfl]
theorem fi_3 : fi b k1 k2 k3 M (b + 3) = cRk 5 12 (b + 17) k3 := by
  unfold fi
  rw [if_neg (by omega), if_neg (by omega), if_neg (by omega), if_pos rfl]
theorem rk_up {a : Nat} : va_up (fun i => if i < k then some (a + i) else none) k (some (a + k)) = fun i => if i < k + 1 then some (a + i) else none := by
  funext i
  by_cases e : i = k
  · subst e
    rw [va_up_self, if_pos (by omega)]
  · rw [va_up_ne _ _ e]
    by_cases l : i < k
    · rw [if_pos l, if_pos (by omega)]
    · rw [if_neg l, if_neg (by omega)]
theorem fi_s1 (hk : k < 6) : va_up (va_up (fi b k 0 0 M) (b + 8 + k) (.inr (3, [.int 0, .int 0, .int 0]))) (b + 1) (.inl (3, 6, .inr (.inr (.inr (.inr (va_up (fun i => if i < k then some (b + 8 + i) else none) k (some (b + 8 + k)))))))) = fi b (k + 1) 0 0 M := by
  funext q
  rw [rk_up]
  by_cases e : q = b + 1
  · subst e
    rw [va_up_self, fi_1]
    rfl
  · rw [va_up_ne _ _ e]
    by_cases e2 : q = b + 8 + k
    · subst e2
      rw [va_up_self]
      unfold fi
      repeat rw [if_neg (by omega)]
      rw [if_pos (by omega)]
      rfl
    · rw [va_up_ne _ _ e2]
      unfold fi
      by_cases h0 : q = b
      · rw [if_pos h0, if_pos h0]
      rw [if_neg h0, if_neg h0]
      by_cases h1 : q = b + 1
      · first | exact absurd h1 e | rw [if_pos h1, if_pos h1]
      rw [if_neg h1, if_neg h1]
      by_cases h2 : q = b + 2
      · first | exact absurd h2 e | rw [if_pos h2, if_pos h2]
      rw [if_neg h2, if_neg h2]
      by_cases h3 : q = b + 3
      · first | exact absurd h3 e | rw [if_pos h3, if_pos h3]
      rw [if_neg h3, if_neg h3]
      by_cases h4 : q = b + 4
      · rw [if_pos h4, if_pos h4]
      rw [if_neg h4, if_neg h4]
      by_cases h5 : b + 5 ≤ q ∧ q < b + 8
      · rw [if_pos h5, if_pos h5]
      rw [if_neg h5, if_neg h5]
      by_cases h6 : b + 8 ≤ q ∧ q < b + 8 + k
      · rw [if_pos h6, if_pos (show b + 8 ≤ q ∧ q < b + 8 + (k + 1) by omega)]
      rw [if_neg h6, if_neg (show ¬ (b + 8 ≤ q ∧ q < b + 8 + (k + 1)) by omega)]
theorem lp_X1i1 : ∀ (e k c s : Nat), k + e = 6 → JR (Ev mtab mcode (d + 1)) jcX1_init (68, [(1, .int (nI 6)), (0, .ref b)], []) (b + 14, c + e, s + 3 * e, fi b 6 0 0 M) o hf → JR (Ev mtab mcode (d + 1)) jcX1_init (43, [(1, .int (nI k)), (0, .ref b)], []) (b + 8 + k, c, s, fi b k 0 0 M) o hf := by
  intro e
  induction e with
  | zero =>
    intro k c s hk kk
    have : k = 6 := by omega
    subst this
    refine JR.ild (p2 := 44) rfl rfl rfl ?_
    refine JR.stk (len := 2) (sem := (s_push (.int 6))) (p2 := 46) rfl rfl rfl ?_
    refine JR.brT rfl rfl (by exact nI_le (a := 6) (b := 6) (by omega) (by omega)) ?_
    exact kk
  | succ e ih =>
    intro k c s hk kk
    refine JR.ild (p2 := 44) rfl rfl rfl ?_
    refine JR.stk (len := 2) (sem := (s_push (.int 6))) (p2 := 46) rfl rfl rfl ?_
    refine JR.brF (p2 := 49) rfl rfl rfl (by exact nI_ge (a := k) (b := 6) (by omega) (by omega)) ?_
    refine JR.ald (p2 := 50) rfl rfl rfl ?_
    refine JR.getf (p2 := 53) rfl fi_F rfl rfl ?_
    refine JR.ild (p2 := 54) rfl rfl rfl ?_
    refine JR.new (p2 := 57) rfl (va3 (by omega)) (vsi (by omega)) rfl ?_
    refine JR.stk (len := 1) (sem := s_dup) (p2 := 58) rfl rfl rfl ?_
    refine JR.ini (p2 := 61) rfl rfl rfl (Nat.le_of_ble_eq_true rfl) rfl ev_X3_init (by unfold jfr; rw [va3 (by omega), vsi2 (by omega) (by omega)]; rfl) ?_
    refine JR.aast (p2 := 62) (j := k) rfl ((va_up_ne _ _ (by omega)).trans fi_1) rfl (by omega) (by decide) (va_up_self _ _ _) rfl ?_
    refine JR.mem (fi_s1 (by omega)) ?_
    refine JR.iinc (p2 := 65) rfl rfl (nI_1 _) rfl rfl ?_
    refine JR.goto rfl ?_
    refine ih (k + 1) (c + 1) (s + 3) (by omega) ?_
    rw [show c + 1 + e = c + (e + 1) by omega, show s + 3 + 3 * e = s + 3 * (e + 1) by omega]
    exact kk
theorem fi_s2 (hk : k < 3) : va_up (va_up (fi b 6 k 0 M) (b + 14 + k) (.inr (5, [.int 0, .int 0, .int 0, .int 0, .int 0]))) (b + 2) (.inl (4, 3, .inr (.inr (.inr (.inr (va_up (fun i => if i < k then some (b + 14 + i) else none) k (some (b + 14 + k)))))))) = fi b 6 (k + 1) 0 M := by
  funext q
  rw [rk_up]
  by_cases e : q = b + 2
  · subst e
    rw [va_up_self, fi_2]
    rfl
  · rw [va_up_ne _ _ e]
    by_cases e2 : q = b + 14 + k
    · subst e2
      rw [va_up_self]
      unfold fi
      repeat rw [if_neg (by omega)]
      rw [if_pos (by omega)]
      rfl
    · rw [va_up_ne _ _ e2]
      unfold fi
      by_cases h0 : q = b
      · rw [if_pos h0, if_pos h0]
      rw [if_neg h0, if_neg h0]
      by_cases h1 : q = b + 1
      · first | exact absurd h1 e | rw [if_pos h1, if_pos h1]
      rw [if_neg h1, if_neg h1]
      by_cases h2 : q = b + 2
      · first | exact absurd h2 e | rw [if_pos h2, if_pos h2]
      rw [if_neg h2, if_neg h2]
      by_cases h3 : q = b + 3
      · first | exact absurd h3 e | rw [if_pos h3, if_pos h3]
      rw [if_neg h3, if_neg h3]
      by_cases h4 : q = b + 4
      · rw [if_pos h4, if_pos h4]
      rw [if_neg h4, if_neg h4]
      by_cases h5 : b + 5 ≤ q ∧ q < b + 8
      · rw [if_pos h5, if_pos h5]
      rw [if_neg h5, if_neg h5]
      by_cases h6 : b + 8 ≤ q ∧ q < b + 8 + 6
      · rw [if_pos h6, if_pos (show b + 8 ≤ q ∧ q < b + 8 + 6 by omega)]
      rw [if_neg h6, if_neg (show ¬ (b + 8 ≤ q ∧ q < b + 8 + 6) by omega)]
      by_cases h7 : b + 14 ≤ q ∧ q < b + 14 + k
      · rw [if_pos h7, if_pos (show b + 14 ≤ q ∧ q < b + 14 + (k + 1) by omega)]
      rw [if_neg h7, if_neg (show ¬ (b + 14 ≤ q ∧ q < b + 14 + (k + 1)) by omega)]
theorem lp_X1i2 : ∀ (e k c s : Nat), k + e = 3 → JR (Ev mtab mcode (d + 1)) jcX1_init (94, [(1, .int (nI 3)), (0, .ref b)], []) (b + 17, c + e, s + 5 * e, fi b 6 3 0 M) o hf → JR (Ev mtab mcode (d + 1)) jcX1_init (70, [(1, .int (nI k)), (0, .ref b)], []) (b + 14 + k, c, s, fi b 6 k 0 M) o hf := by
  intro e
  induction e with
  | zero =>
    intro k c s hk kk
    have : k = 3 := by omega
    subst this
    refine JR.ild (p2 := 71) rfl rfl rfl ?_
    refine JR.stk (len := 1) (sem := (s_push (.int 3))) (p2 := 72) rfl rfl rfl ?_
    refine JR.brT rfl rfl (by exact nI_le (a := 3) (b := 3) (by omega) (by omega)) ?_
    exact kk
  | succ e ih =>
    intro k c s hk kk
    refine JR.ild (p2 := 71) rfl rfl rfl ?_
    refine JR.stk (len := 1) (sem := (s_push (.int 3))) (p2 := 72) rfl rfl rfl ?_
    refine JR.brF (p2 := 75) rfl rfl rfl (by exact nI_ge (a := k) (b := 3) (by omega) (by omega)) ?_
    refine JR.ald (p2 := 76) rfl rfl rfl ?_
    refine JR.getf (p2 := 79) rfl fi_F rfl rfl ?_
    refine JR.ild (p2 := 80) rfl rfl rfl ?_
    refine JR.new (p2 := 83) rfl (va3 (by omega)) (vsi (by omega)) rfl ?_
    refine JR.stk (len := 1) (sem := s_dup) (p2 := 84) rfl rfl rfl ?_
    refine JR.ini (p2 := 87) rfl rfl rfl (Nat.le_of_ble_eq_true rfl) rfl ev_X5_init (by unfold jfr; rw [va3 (by omega), vsi2 (by omega) (by omega)]; rfl) ?_
    refine JR.aast (p2 := 88) (j := k) rfl ((va_up_ne _ _ (by omega)).trans fi_2) rfl (by omega) (by decide) (va_up_self _ _ _) rfl ?_
    refine JR.mem (fi_s2 (by omega)) ?_
    refine JR.iinc (p2 := 91) rfl rfl (nI_1 _) rfl rfl ?_
    refine JR.goto rfl ?_
    refine ih (k + 1) (c + 1) (s + 5) (by omega) ?_
    rw [show c + 1 + e = c + (e + 1) by omega, show s + 5 + 5 * e = s + 5 * (e + 1) by omega]
    exact kk
theorem fi_s3 (hk : k < 12) : va_up (va_up (fi b 6 3 k M) (b + 17 + k) (.inr (0, [.int 0, .int 0, .int 0, .int 0, .int 0, .int 0, .int 0, .int 0, .int 0, .int 0]))) (b + 3) (.inl (5, 12, .inr (.inr (.inr (.inr (va_up (fun i => if i < k then some (b + 17 + i) else none) k (some (b + 17 + k)))))))) = fi b 6 3 (k + 1) M := by
  funext q
  rw [rk_up]
  by_cases e : q = b + 3
  · subst e
    rw [va_up_self, fi_3]
    rfl
  · rw [va_up_ne _ _ e]
    by_cases e2 : q = b + 17 + k
    · subst e2
      rw [va_up_self]
      unfold fi
      repeat rw [if_neg (by omega)]
      rw [if_pos (by omega)]
      rfl
    · rw [va_up_ne _ _ e2]
      unfold fi
      by_cases h0 : q = b
      · rw [if_pos h0, if_pos h0]
      rw [if_neg h0, if_neg h0]
      by_cases h1 : q = b + 1
      · first | exact absurd h1 e | rw [if_pos h1, if_pos h1]
      rw [if_neg h1, if_neg h1]
      by_cases h2 : q = b + 2
      · first | exact absurd h2 e | rw [if_pos h2, if_pos h2]
      rw [if_neg h2, if_neg h2]
      by_cases h3 : q = b + 3
      · first | exact absurd h3 e | rw [if_pos h3, if_pos h3]
      rw [if_neg h3, if_neg h3]
      by_cases h4 : q = b + 4
      · rw [if_pos h4, if_pos h4]
      rw [if_neg h4, if_neg h4]
      by_cases h5 : b + 5 ≤ q ∧ q < b + 8
      · rw [if_pos h5, if_pos h5]
      rw [if_neg h5, if_neg h5]
      by_cases h6 : b + 8 ≤ q ∧ q < b + 8 + 6
      · rw [if_pos h6, if_pos (show b + 8 ≤ q ∧ q < b + 8 + 6 by omega)]
      rw [if_neg h6, if_neg (show ¬ (b + 8 ≤ q ∧ q < b + 8 + 6) by omega)]
      by_cases h7 : b + 14 ≤ q ∧ q < b + 14 + 3
      · rw [if_pos h7, if_pos (show b + 14 ≤ q ∧ q < b + 14 + 3 by omega)]
      rw [if_neg h7, if_neg (show ¬ (b + 14 ≤ q ∧ q < b + 14 + 3) by omega)]
      by_cases h8 : b + 17 ≤ q ∧ q < b + 17 + k
      · rw [if_pos h8, if_pos (show b + 17 ≤ q ∧ q < b + 17 + (k + 1) by omega)]
      rw [if_neg h8, if_neg (show ¬ (b + 17 ≤ q ∧ q < b + 17 + (k + 1)) by omega)]
theorem lp_X1i3 : ∀ (e k c s : Nat), k + e = 12 → JR (Ev mtab mcode (d + 1)) jcX1_init (121, [(1, .int (nI 12)), (0, .ref b)], []) (b + 29, c + e, s + 10 * e, fi b 6 3 12 M) o hf → JR (Ev mtab mcode (d + 1)) jcX1_init (96, [(1, .int (nI k)), (0, .ref b)], []) (b + 17 + k, c, s, fi b 6 3 k M) o hf := by
  intro e
  induction e with
  | zero =>
    intro k c s hk kk
    have : k = 12 := by omega
    subst this
    refine JR.ild (p2 := 97) rfl rfl rfl ?_
    refine JR.stk (len := 2) (sem := (s_push (.int 12))) (p2 := 99) rfl rfl rfl ?_
    refine JR.brT rfl rfl (by exact nI_le (a := 12) (b := 12) (by omega) (by omega)) ?_
    exact kk
  | succ e ih =>
    intro k c s hk kk
    refine JR.ild (p2 := 97) rfl rfl rfl ?_
    refine JR.stk (len := 2) (sem := (s_push (.int 12))) (p2 := 99) rfl rfl rfl ?_
    refine JR.brF (p2 := 102) rfl rfl rfl (by exact nI_ge (a := k) (b := 12) (by omega) (by omega)) ?_
    refine JR.ald (p2 := 103) rfl rfl rfl ?_
    refine JR.getf (p2 := 106) rfl fi_F rfl rfl ?_
    refine JR.ild (p2 := 107) rfl rfl rfl ?_
    refine JR.new (p2 := 110) rfl (va3 (by omega)) (vsi (by omega)) rfl ?_
    refine JR.stk (len := 1) (sem := s_dup) (p2 := 111) rfl rfl rfl ?_
    refine JR.ini (p2 := 114) rfl rfl rfl (Nat.le_of_ble_eq_true rfl) rfl ev_X0_init (by unfold jfr; rw [va3 (by omega), vsi2 (by omega) (by omega)]; rfl) ?_
    refine JR.aast (p2 := 115) (j := k) rfl ((va_up_ne _ _ (by omega)).trans fi_3) rfl (by omega) (by decide) (va_up_self _ _ _) rfl ?_
    refine JR.mem (fi_s3 (by omega)) ?_
    refine JR.iinc (p2 := 118) rfl rfl (nI_1 _) rfl rfl ?_
    refine JR.goto rfl ?_
    refine ih (k + 1) (c + 1) (s + 10) (by omega) ?_
    rw [show c + 1 + e = c + (e + 1) by omega, show s + 10 + 10 * e = s + 10 * (e + 1) by omega]
    exact kk
theorem fi_end : fi b 6 3 12 M = fm b mz M := by
  funext q
  show _ = if b ≤ q ∧ q < b + 29 then layF.2.1 b (q - b) (mz (layF.2.2 (q - b)).1 (layF.2.2 (q - b)).2) else M q
  unfold fi
  by_cases h : b ≤ q ∧ q < b + 29
  · rw [if_pos h]
    obtain ⟨r, rfl⟩ : ∃ r, q = b + r := ⟨q - b, by omega⟩
    rw [show b + r - b = r by omega]
    have hr : r < 29 := by omega
    have zz : ∀ x y, mz x y = z1 := fun _ _ => rfl
    rw [zz]
    show _ = if r = 0 then cF b z1 else if r = 1 then cR 3 6 (b + 8) else if r = 2 then cR 4 3 (b + 14) else if r = 3 then cR 5 12 (b + 17) else if r = 4 then cG b z1 else if r < 8 then cI 30 z1 else if r < 14 then cS z1 else if r < 17 then cT z1 else cA z1
    by_cases h0 : r = 0
    · rw [if_pos (by omega), if_pos h0]
    rw [if_neg (by omega), if_neg h0]
    by_cases h1 : r = 1
    · rw [if_pos (by omega), if_pos h1]; rfl
    rw [if_neg (by omega), if_neg h1]
    by_cases h2 : r = 2
    · rw [if_pos (by omega), if_pos h2]; rfl
    rw [if_neg (by omega), if_neg h2]
    by_cases h3 : r = 3
    · rw [if_pos (by omega), if_pos h3]; rfl
    rw [if_neg (by omega), if_neg h3]
    by_cases h4 : r = 4
    · rw [if_pos (by omega), if_pos h4]
    rw [if_neg (by omega), if_neg h4]
    by_cases h5 : r < 8
    · rw [if_pos (by omega), if_pos h5]
    rw [if_neg (by omega), if_neg h5]
    by_cases h6 : r < 14
    · rw [if_pos (by omega), if_pos h6]
    rw [if_neg (by omega), if_neg h6]
    by_cases h7 : r < 17
    · rw [if_pos (by omega), if_pos h7]
    rw [if_neg (by omega), if_neg h7, if_pos (by omega)]
  · rw [if_neg h, if_neg (by omega), if_neg (by omega), if_neg (by omega), if_neg (by omega), if_neg (by omega), if_neg (by omega), if_neg (by omega), if_neg (by omega), if_neg (by omega)]
theorem fw_mz : FW 0 mz mz := by
  have v : ∀ k, VX (k + 1) (0 : Int32) := fun k => Or.inr ⟨by decide +kernel, by rw [show ix (0 : Int32) = 0 by decide +kernel]; omega⟩
  exact ⟨⟨vn_0, vn_0, vn_0, fun j hj => v 11, fun j hj => v 11, fun j hj => v 5⟩, vn_0, fun _ _ => rfl⟩
theorem ev_X1_init (hd : 3 ≤ d) (hM : M b = .inr (1, [.null, .null, .null, .null, .int 0, .int 0, .int 0, .int 0, .int 0, .int 0])) : Ev mtab mcode (d + 2) 6 [.ref b] (b + 1, c, s, M) (.inl none) (b + 29, c + 28, s + 21 + 4 + 90 + 18 + 15 + 120, fm b (x_X1_build mz 3 1) M) := by
  refine ev_mk (m := mX1_init) (cd := jcX1_init) rfl rfl (Nat.le_of_ble_eq_true rfl) trivial ?_
  refine JR.ald (p2 := 1) rfl rfl rfl ?_
  refine JR.oini (p2 := 4) rfl (Nat.le_of_ble_eq_true rfl) rfl ?_
  refine JR.ald (p2 := 5) rfl rfl rfl ?_
  refine JR.stk (len := 2) (sem := (s_push (.int 6))) (p2 := 7) rfl rfl rfl ?_
  refine JR.newq (p2 := 10) (K := 6) rfl (va1 (by omega)) (vs1 (by omega)) (by decide) (by decide) (by decide) rfl ?_
  refine JR.putr (p2 := 13) rfl ((va_up_ne _ _ (by omega)).trans hM) (Nat.le_of_ble_eq_true rfl) (by omega) rfl ?_
  refine JR.ald (p2 := 14) rfl rfl rfl ?_
  refine JR.stk (len := 1) (sem := (s_push (.int 3))) (p2 := 15) rfl rfl rfl ?_
  refine JR.newq (p2 := 18) (K := 3) rfl (va1 (by omega)) (vs1 (by omega)) (by decide) (by decide) (by decide) rfl ?_
  refine JR.putr (p2 := 21) rfl ((va_up_ne _ _ (by omega)).trans (va_up_self _ _ _)) (Nat.le_of_ble_eq_true rfl) (by omega) rfl ?_
  refine JR.ald (p2 := 22) rfl rfl rfl ?_
  refine JR.stk (len := 2) (sem := (s_push (.int 12))) (p2 := 24) rfl rfl rfl ?_
  refine JR.newq (p2 := 27) (K := 12) rfl (va1 (by omega)) (vs1 (by omega)) (by decide) (by decide) (by decide) rfl ?_
  refine JR.putr (p2 := 30) rfl ((va_up_ne _ _ (by omega)).trans (va_up_self _ _ _)) (Nat.le_of_ble_eq_true rfl) (by omega) rfl ?_
  refine JR.ald (p2 := 31) rfl rfl rfl ?_
  refine JR.new (p2 := 34) rfl (va1 (by omega)) (vs1 (by omega)) rfl ?_
  refine JR.stk (len := 1) (sem := s_dup) (p2 := 35) rfl rfl rfl ?_
  refine JR.ini (p2 := 38) rfl rfl rfl (Nat.le_of_ble_eq_true rfl) rfl (ev_X2_init (va_up_self _ _ _)) (jf1 (by omega) (by omega)) ?_
  refine JR.putr (p2 := 41) rfl (show lgm (b + 1 + 1 + 1 + 1) _ b = _ from (if_neg (by omega)).trans ((if_neg (by omega)).trans ((va_up_ne _ _ (by omega)).trans (va_up_self _ _ _)))) (Nat.le_of_ble_eq_true rfl) (by omega) rfl ?_
  refine JR.mem (M' := fi b 0 0 0 M) ?_ ?_
  · funext q
    by_cases e0 : q = b
    · subst e0
      rw [va_up_self, fi_F]
      rfl
    rw [va_up_ne _ _ e0]
    unfold lgm fi
    rw [if_neg e0]
    by_cases e4 : q = b + 4
    · rw [if_pos e4, if_neg (by omega), if_neg (by omega), if_neg (by omega), if_pos e4]
      rfl
    rw [if_neg e4]
    by_cases e5 : b + 5 ≤ q ∧ q < b + 8
    · rw [if_pos (by omega), if_neg (by omega), if_neg (by omega), if_neg (by omega), if_neg (by omega), if_pos e5]
    rw [if_neg (by omega), va_up_ne _ _ e4, va_up_ne _ _ e0]
    by_cases e3 : q = b + 3
    · rw [if_neg (by omega), if_neg (by omega), if_pos e3, e3]
      exact (va_up_self _ _ _).trans rfl
    rw [va_up_ne _ _ e3, va_up_ne _ _ e0]
    by_cases e2 : q = b + 2
    · rw [if_neg (by omega), if_pos e2, e2]
      exact (va_up_self _ _ _).trans rfl
    rw [va_up_ne _ _ e2, va_up_ne _ _ e0]
    by_cases e1 : q = b + 1
    · rw [if_pos e1, e1]
      exact (va_up_self _ _ _).trans rfl
    rw [va_up_ne _ _ e1, if_neg e1, if_neg e2, if_neg e3, if_neg e4, if_neg e5, if_neg (by omega), if_neg (by omega), if_neg (by omega)]
  refine JR.stk (len := 1) (sem := (s_push (.int 0))) (p2 := 42) rfl rfl rfl ?_
  refine JR.ist (p2 := 43) rfl rfl rfl ?_
  refine lp_X1i1 6 0 _ _ rfl ?_
  refine JR.stk (len := 1) (sem := (s_push (.int 0))) (p2 := 69) rfl rfl rfl ?_
  refine JR.ist (p2 := 70) rfl rfl rfl ?_
  refine lp_X1i2 3 0 _ _ rfl ?_
  refine JR.stk (len := 1) (sem := (s_push (.int 0))) (p2 := 95) rfl rfl rfl ?_
  refine JR.ist (p2 := 96) rfl rfl rfl ?_
  refine lp_X1i3 12 0 _ _ rfl ?_
  refine JR.mem fi_end ?_
  refine JR.ald (p2 := 122) rfl rfl rfl ?_
  refine JR.stk (len := 1) (sem := (s_push (.int 3))) (p2 := 123) rfl rfl rfl ?_
  refine JR.stk (len := 1) (sem := (s_push (.int 1))) (p2 := 124) rfl rfl rfl ?_
  refine JR.inv1 (p2 := 127) rfl rfl rfl fm_F (Nat.le_of_ble_eq_true rfl) rfl (ev_X1_build (by omega) fw_mz (by decide) ⟨by decide +kernel, by decide +kernel⟩ ⟨by decide +kernel, by decide +kernel⟩ rfl) ?_
  exact JR.retv (m := 4) rfl rfl rfl rfl
end FIS
