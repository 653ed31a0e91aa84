/-! the law's memory: the class at 1, the model at 183, the row for an answer at 190 -/
def ob (w : Nat → Int64) : JM := fun q => if q = 190 then .inl (2, 1, .inr (.inl w)) else .inr (99, [])
abbrev lm (S : Sys) (μ : Mem) (w : Nat → Int64) : JM := sy S (mm 183 μ (ob w))
def jS (r : Int32 ⊕ String) (S S' : Sys) : Sys := match r with
  | .inl _ => S'
  | .inr _ => S
section LMS
variable {S : Sys} {μ μ' : Mem} {w w' : Nat → Int64} {N : JM} {E : JE} {f n c s : Nat} {as : List Value} {o : JO}
theorem sy_mm : sy S (mm 183 μ N) = mm 183 μ (sy S N) := by
  funext q
  rcases sy_cases q with h | h | h | h | h | h | h | h | h | h
  · by_cases g : 183 ≤ q ∧ q < 183 + 7
    · rw [sy_out h]
      exact (um_in (L := layM) g).trans (um_in (L := layM) g).symm
    · rw [sy_out h]
      exact (um_out (L := layM) g).trans ((sy_out h).symm.trans (um_out (L := layM) g).symm)
  · exact (sy_atX h).trans ((sy_atX h).symm.trans (um_out (L := layM) (b := 183) (show ¬ (183 ≤ q ∧ q < 183 + 7) by omega)).symm)
  · exact (sy_at1 h).trans ((sy_at1 h).symm.trans (um_out (L := layM) (b := 183) (show ¬ (183 ≤ q ∧ q < 183 + 7) by omega)).symm)
  · exact (sy_at2 h).trans ((sy_at2 h).symm.trans (um_out (L := layM) (b := 183) (show ¬ (183 ≤ q ∧ q < 183 + 7) by omega)).symm)
  · exact (sy_atQ h).trans ((sy_atQ h).symm.trans (um_out (L := layM) (b := 183) (show ¬ (183 ≤ q ∧ q < 183 + 7) by omega)).symm)
  · exact (sy_at3 h).trans ((sy_at3 h).symm.trans (um_out (L := layM) (b := 183) (show ¬ (183 ≤ q ∧ q < 183 + 7) by omega)).symm)
  · exact (sy_at4 h).trans ((sy_at4 h).symm.trans (um_out (L := layM) (b := 183) (show ¬ (183 ≤ q ∧ q < 183 + 7) by omega)).symm)
  · exact (sy_at5 h).trans ((sy_at5 h).symm.trans (um_out (L := layM) (b := 183) (show ¬ (183 ≤ q ∧ q < 183 + 7) by omega)).symm)
  · exact (sy_at6 h).trans ((sy_at6 h).symm.trans (um_out (L := layM) (b := 183) (show ¬ (183 ≤ q ∧ q < 183 + 7) by omega)).symm)
  · exact (sy_at7 h).trans ((sy_at7 h).symm.trans (um_out (L := layM) (b := 183) (show ¬ (183 ≤ q ∧ q < 183 + 7) by omega)).symm)
theorem lm_o : lm S μ w 190 = .inl (2, 1, .inr (.inl w)) := (sy_out (by omega)).trans ((um_out (L := layM) (b := 183) (show ¬ (183 ≤ 190 ∧ 190 < 183 + 7) by omega)).trans rfl)
theorem lm_wo : va_up (lm S μ w) 190 (.inl (2, 1, .inr (.inl w'))) = lm S μ w' := by
  funext q
  by_cases e : q = 190
  · subst e
    rw [va_up_self, lm_o]
  · rw [va_up_ne _ _ e]
    have ho : ob w q = ob w' q := by
      unfold ob
      rw [if_neg e, if_neg e]
    rcases sy_cases q with h | h | h | h | h | h | h | h | h | h
    · by_cases g : 183 ≤ q ∧ q < 183 + 7
      · exact (sy_out h).trans ((um_in (L := layM) g).trans ((um_in (L := layM) g).symm.trans (sy_out h).symm))
      · exact (sy_out h).trans ((um_out (L := layM) g).trans (ho.trans ((um_out (L := layM) g).symm.trans (sy_out h).symm)))
    · exact (sy_atX h).trans (sy_atX h).symm
    · exact (sy_at1 h).trans (sy_at1 h).symm
    · exact (sy_at2 h).trans (sy_at2 h).symm
    · exact (sy_atQ h).trans (sy_atQ h).symm
    · exact (sy_at3 h).trans (sy_at3 h).symm
    · exact (sy_at4 h).trans (sy_at4 h).symm
    · exact (sy_at5 h).trans (sy_at5 h).symm
    · exact (sy_at6 h).trans (sy_at6 h).symm
    · exact (sy_at7 h).trans (sy_at7 h).symm
/-- a call of the model -/
theorem lm_ev (h : E f as (n, c, s, mm 183 μ (sy S (ob w))) o (n, c, s, mm 183 μ' (sy S (ob w)))) : E f as (n, c, s, lm S μ w) o (n, c, s, lm S μ' w) := by
  rw [show lm S μ w = mm 183 μ (sy S (ob w)) from sy_mm, show lm S μ' w = mm 183 μ' (sy S (ob w)) from sy_mm]
  exact h
theorem lm_M : lm S μ w 183 = cM 183 (μ 0 0) := (congrFun sy_mm 183).trans mm_M
end LMS
section JVL
variable {E : JE} {cd : List (Nat × JA)} {pc p2 n c s c1 s1 : Nat} {l : List (Nat × Value)} {st r : List Value} {h1 hf : JH} {o : JO} {M M1 M' : JM}
theorem JV.invC {μ k ci q : Nat} {ct : List (String × Int32)} {fs as : List Value} {x : Int32} (hl : jlk cd pc = some (a_inv μ k ci ct)) (hst : st.drop k = .ref q :: r) (has : (st.take k).reverse = as) (hM : M q = .inr (ci, fs)) (hr : jcat r ≤ 8) (hp : pc + 3 = p2) (hE : E μ (.ref q :: as) (n, c, s, M) (.inl (some (.int x))) (n, c1, s1, M1)) (kk : JV E cd (p2, l, .int x :: r) (n, c1, s1, M1) o hf) : JV E cd (pc, l, st) (n, c, s, M) o hf := by
  subst hp
  subst has
  intro e he
  refine JR.call (ct := ct) (f' := (pc + 3, e, r)) (rv := some (.int x)) hl ?_ hE (Or.inl rfl) (kk e he)
  unfold a_inv
  dsimp only
  rw [hst]
  dsimp only
  rw [hM]
  dsimp only
  rw [if_pos ⟨rfl, hr⟩]
theorem JV.invX {μ k ci q : Nat} {ct : List (String × Int32)} {fs as : List Value} {X : String} {kv : Int32} (hl : jlk cd pc = some (a_inv μ k ci ct)) (hst : st.drop k = .ref q :: r) (has : (st.take k).reverse = as) (hM : M q = .inr (ci, fs)) (hr : jcat r ≤ 8) (hE : E μ (.ref q :: as) (n, c, s, M) (.inr X) h1) (hc : (X, kv) ∈ ct) : JV E cd (pc, l, st) (n, c, s, M) (.inl (some (.int kv))) h1 := by
  subst has
  intro e he
  refine JR.callX (ct := ct) (f' := (pc + 3, e, r)) hl ?_ hE hc
  unfold a_inv
  dsimp only
  rw [hst]
  dsimp only
  rw [hM]
  dsimp only
  rw [if_pos ⟨rfl, hr⟩]
theorem JV.last {q len : Nat} {i : Int32} {x : Int64} {j : Nat} {xs : Nat → Int64} (hl : jlk cd pc = some a_last) (hM : M q = .inl (2, len, .inr (.inl xs))) (hi : i = nI j) (hj : j < len) (hn : len < 2 ^ 31) (hM' : va_up M q (.inl (2, len, .inr (.inl (vp_updL xs j x)))) = M') (hp : pc + 1 = p2) (kk : JV E cd (p2, l, r) (n, c, s, M') o hf) : JV E cd (pc, l, .long x :: .int i :: .ref q :: r) (n, c, s, M) o hf := by
  subst hi
  subst hp
  subst hM'
  intro e he
  refine JR.one hl ?_ (kk e he)
  unfold a_last
  dsimp only
  rw [hM]
  dsimp only
  rw [if_pos ⟨rfl, jin_nI hj hn⟩, nI_clamp (Nat.lt_trans hj hn)]
theorem JV.lald {q len : Nat} {i : Int32} {j : Nat} {xs : Nat → Int64} (hl : jlk cd pc = some a_lald) (hM : M q = .inl (2, len, .inr (.inl xs))) (hi : i = nI j) (hj : j < len) (hn : len < 2 ^ 31) (hp : pc + 1 = p2) (kk : JV E cd (p2, l, .long (xs j) :: r) (n, c, s, M) o hf) : JV E cd (pc, l, .int i :: .ref q :: r) (n, c, s, M) o hf := by
  subst hi
  subst hp
  intro e he
  refine JR.one hl ?_ (kk e he)
  unfold a_lald
  dsimp only
  rw [hM]
  dsimp only
  rw [if_pos ⟨rfl, jin_nI hj hn⟩, nI_clamp (Nat.lt_trans hj hn)]
end JVL
def ct_L_begin : List (String × Int32) := [("java/lang/IllegalArgumentException", 1)]
theorem ev_L_begin {d c s : Nat} {S : Sys} {μ : Mem} {w : Nat → Int64} {p1 : Int32} {p2 : Int32} {B : Nat} {res : Sys × (Int32 ⊕ String)} {k : Int32} (hd : 7 ≤ d) (hK : SK B S) (hB : B + 0 < 2147483648) (hx : x_X6_begin S p1 p2 = res) (hk : (∃ v, res.2 = .inl v ∧ k = 0) ∨ ∃ E, res.2 = .inr E ∧ (E, k) ∈ ct_L_begin) : ∃ (c' s' : Nat) (w' : Nat → Int64), c' ≤ c + 1 ∧ s' ≤ s + 6 ∧ (∀ v, res.2 = .inl v → w' 0 = v.toInt64) ∧ Ev mtab mcode d 157 [.ref 1, .int p1, .int p2, .ref 190] (191, c, s, lm S μ w) (.inl (some (.int k))) (191, c', s', lm (jS res.2 S res.1) μ w') := by
  obtain ⟨d, rfl⟩ : ∃ e, d = e + 1 := ⟨d - 1, by omega⟩
  have ev := ev_X6_begin (d := d) (n := 191) (c := c) (s := s) (M := mm 183 μ (ob w)) (by omega) hK hB hx
  rcases hk with ⟨v, hv, rfl⟩ | ⟨E, hE, hm⟩
  · obtain ⟨T, r⟩ := res
    obtain rfl : r = .inl v := hv
    refine ⟨c, s, vp_updL w 0 v.toInt64, by omega, by omega, fun v' h => by cases h; rfl, ?_⟩
    refine jv_mk (m := mL_begin) (cd := jcL_begin) rfl rfl (Nat.le_of_ble_eq_true rfl) trivial ?_
    refine JV.ald (p2 := 1) rfl rfl rfl ?_
    refine JV.stk (len := 1) (sem := (s_push (.int 0))) (p2 := 2) rfl rfl rfl ?_
    refine JV.ald (p2 := 3) rfl rfl rfl ?_
    refine JV.ild (p2 := 4) rfl rfl rfl ?_
    refine JV.ild (p2 := 5) rfl rfl rfl ?_
    refine JV.invC (p2 := 8) rfl rfl rfl sy_X (Nat.le_of_ble_eq_true rfl) rfl ev ?_
    refine JV.stk (len := 1) (sem := s_i2l) (p2 := 9) rfl rfl rfl ?_
    refine JV.last (p2 := 10) (j := 0) rfl lm_o rfl (by decide) (by decide) lm_wo rfl ?_
    refine JV.goto rfl ?_
    refine JV.stk (len := 1) (sem := (s_push (.int 0))) (p2 := 18) rfl rfl rfl ?_
    exact JV.ret rfl (fun _ => rfl) rfl rfl
  · obtain ⟨T, r⟩ := res
    obtain rfl : r = .inr E := hE
    refine ⟨c + 1, s + 6, w, by omega, by omega, fun v' h => (nomatch h), ?_⟩
    refine jv_mk (m := mL_begin) (cd := jcL_begin) rfl rfl (Nat.le_of_ble_eq_true rfl) trivial ?_
    refine JV.ald (p2 := 1) rfl rfl rfl ?_
    refine JV.stk (len := 1) (sem := (s_push (.int 0))) (p2 := 2) rfl rfl rfl ?_
    refine JV.ald (p2 := 3) rfl rfl rfl ?_
    refine JV.ild (p2 := 4) rfl rfl rfl ?_
    refine JV.ild (p2 := 5) rfl rfl rfl ?_
    exact JV.invX rfl rfl rfl sy_X (Nat.le_of_ble_eq_true rfl) ev hm
def ct_L_setSpan : List (String × Int32) := [("java/lang/IndexOutOfBoundsException", 1), ("java/lang/IllegalArgumentException", 2)]
theorem ev_L_setSpan {d c s : Nat} {S : Sys} {μ : Mem} {w : Nat → Int64} {p1 : Int32} {p2 : Int32} {B : Nat} {res : Sys × (Int32 ⊕ String)} {k : Int32} (hd : 7 ≤ d) (hK : SK B S) (hB : B + 0 < 2147483648) (hx : x_X6_setSpan S p1 p2 = res) (hk : (∃ v, res.2 = .inl v ∧ k = 0) ∨ ∃ E, res.2 = .inr E ∧ (E, k) ∈ ct_L_setSpan) : ∃ (c' s' : Nat) (w' : Nat → Int64), c' ≤ c + 1 ∧ s' ≤ s + 6 ∧ (∀ v, res.2 = .inl v → w' 0 = v.toInt64) ∧ Ev mtab mcode d 158 [.ref 1, .int p1, .int p2, .ref 190] (191, c, s, lm S μ w) (.inl (some (.int k))) (191, c', s', lm (jS res.2 S res.1) μ w') := by
  obtain ⟨d, rfl⟩ : ∃ e, d = e + 1 := ⟨d - 1, by omega⟩
  have ev := ev_X6_setSpan (d := d) (n := 191) (c := c) (s := s) (M := mm 183 μ (ob w)) (by omega) hK hB hx
  rcases hk with ⟨v, hv, rfl⟩ | ⟨E, hE, hm⟩
  · obtain ⟨T, r⟩ := res
    obtain rfl : r = .inl v := hv
    refine ⟨c, s, vp_updL w 0 v.toInt64, by omega, by omega, fun v' h => by cases h; rfl, ?_⟩
    refine jv_mk (m := mL_setSpan) (cd := jcL_setSpan) rfl rfl (Nat.le_of_ble_eq_true rfl) trivial ?_
    refine JV.ald (p2 := 1) rfl rfl rfl ?_
    refine JV.stk (len := 1) (sem := (s_push (.int 0))) (p2 := 2) rfl rfl rfl ?_
    refine JV.ald (p2 := 3) rfl rfl rfl ?_
    refine JV.ild (p2 := 4) rfl rfl rfl ?_
    refine JV.ild (p2 := 5) rfl rfl rfl ?_
    refine JV.invC (p2 := 8) rfl rfl rfl sy_X (Nat.le_of_ble_eq_true rfl) rfl ev ?_
    refine JV.stk (len := 1) (sem := s_i2l) (p2 := 9) rfl rfl rfl ?_
    refine JV.last (p2 := 10) (j := 0) rfl lm_o rfl (by decide) (by decide) lm_wo rfl ?_
    refine JV.goto rfl ?_
    refine JV.stk (len := 1) (sem := (s_push (.int 0))) (p2 := 22) rfl rfl rfl ?_
    exact JV.ret rfl (fun _ => rfl) rfl rfl
  · obtain ⟨T, r⟩ := res
    obtain rfl : r = .inr E := hE
    refine ⟨c + 1, s + 6, w, by omega, by omega, fun v' h => (nomatch h), ?_⟩
    refine jv_mk (m := mL_setSpan) (cd := jcL_setSpan) rfl rfl (Nat.le_of_ble_eq_true rfl) trivial ?_
    refine JV.ald (p2 := 1) rfl rfl rfl ?_
    refine JV.stk (len := 1) (sem := (s_push (.int 0))) (p2 := 2) rfl rfl rfl ?_
    refine JV.ald (p2 := 3) rfl rfl rfl ?_
    refine JV.ild (p2 := 4) rfl rfl rfl ?_
    refine JV.ild (p2 := 5) rfl rfl rfl ?_
    exact JV.invX rfl rfl rfl sy_X (Nat.le_of_ble_eq_true rfl) ev hm
def ct_L_setStrength : List (String × Int32) := [("java/lang/IndexOutOfBoundsException", 1), ("java/lang/IllegalArgumentException", 2)]
theorem ev_L_setStrength {d c s : Nat} {S : Sys} {μ : Mem} {w : Nat → Int64} {p1 : Int32} {p2 : Int32} {B : Nat} {res : Sys × (Int32 ⊕ String)} {k : Int32} (hd : 7 ≤ d) (hK : SK B S) (hB : B + 0 < 2147483648) (hx : x_X6_setStrength S p1 p2 = res) (hk : (∃ v, res.2 = .inl v ∧ k = 0) ∨ ∃ E, res.2 = .inr E ∧ (E, k) ∈ ct_L_setStrength) : ∃ (c' s' : Nat) (w' : Nat → Int64), c' ≤ c + 1 ∧ s' ≤ s + 6 ∧ (∀ v, res.2 = .inl v → w' 0 = v.toInt64) ∧ Ev mtab mcode d 159 [.ref 1, .int p1, .int p2, .ref 190] (191, c, s, lm S μ w) (.inl (some (.int k))) (191, c', s', lm (jS res.2 S res.1) μ w') := by
  obtain ⟨d, rfl⟩ : ∃ e, d = e + 1 := ⟨d - 1, by omega⟩
  have ev := ev_X6_setStrength (d := d) (n := 191) (c := c) (s := s) (M := mm 183 μ (ob w)) (by omega) hK hB hx
  rcases hk with ⟨v, hv, rfl⟩ | ⟨E, hE, hm⟩
  · obtain ⟨T, r⟩ := res
    obtain rfl : r = .inl v := hv
    refine ⟨c, s, vp_updL w 0 v.toInt64, by omega, by omega, fun v' h => by cases h; rfl, ?_⟩
    refine jv_mk (m := mL_setStrength) (cd := jcL_setStrength) rfl rfl (Nat.le_of_ble_eq_true rfl) trivial ?_
    refine JV.ald (p2 := 1) rfl rfl rfl ?_
    refine JV.stk (len := 1) (sem := (s_push (.int 0))) (p2 := 2) rfl rfl rfl ?_
    refine JV.ald (p2 := 3) rfl rfl rfl ?_
    refine JV.ild (p2 := 4) rfl rfl rfl ?_
    refine JV.ild (p2 := 5) rfl rfl rfl ?_
    refine JV.invC (p2 := 8) rfl rfl rfl sy_X (Nat.le_of_ble_eq_true rfl) rfl ev ?_
    refine JV.stk (len := 1) (sem := s_i2l) (p2 := 9) rfl rfl rfl ?_
    refine JV.last (p2 := 10) (j := 0) rfl lm_o rfl (by decide) (by decide) lm_wo rfl ?_
    refine JV.goto rfl ?_
    refine JV.stk (len := 1) (sem := (s_push (.int 0))) (p2 := 22) rfl rfl rfl ?_
    exact JV.ret rfl (fun _ => rfl) rfl rfl
  · obtain ⟨T, r⟩ := res
    obtain rfl : r = .inr E := hE
    refine ⟨c + 1, s + 6, w, by omega, by omega, fun v' h => (nomatch h), ?_⟩
    refine jv_mk (m := mL_setStrength) (cd := jcL_setStrength) rfl rfl (Nat.le_of_ble_eq_true rfl) trivial ?_
    refine JV.ald (p2 := 1) rfl rfl rfl ?_
    refine JV.stk (len := 1) (sem := (s_push (.int 0))) (p2 := 2) rfl rfl rfl ?_
    refine JV.ald (p2 := 3) rfl rfl rfl ?_
    refine JV.ild (p2 := 4) rfl rfl rfl ?_
    refine JV.ild (p2 := 5) rfl rfl rfl ?_
    exact JV.invX rfl rfl rfl sy_X (Nat.le_of_ble_eq_true rfl) ev hm
def ct_L_setCurfew : List (String × Int32) := [("java/lang/IllegalArgumentException", 1)]
theorem ev_L_setCurfew {d c s : Nat} {S : Sys} {μ : Mem} {w : Nat → Int64} {p1 : Int32} {p2 : Int32} {B : Nat} {res : Sys × (Int32 ⊕ String)} {k : Int32} (hd : 7 ≤ d) (hK : SK B S) (hB : B + 0 < 2147483648) (hx : x_X6_setCurfew S p1 p2 = res) (hk : (∃ v, res.2 = .inl v ∧ k = 0) ∨ ∃ E, res.2 = .inr E ∧ (E, k) ∈ ct_L_setCurfew) : ∃ (c' s' : Nat) (w' : Nat → Int64), c' ≤ c + 1 ∧ s' ≤ s + 6 ∧ (∀ v, res.2 = .inl v → w' 0 = v.toInt64) ∧ Ev mtab mcode d 160 [.ref 1, .int p1, .int p2, .ref 190] (191, c, s, lm S μ w) (.inl (some (.int k))) (191, c', s', lm (jS res.2 S res.1) μ w') := by
  obtain ⟨d, rfl⟩ : ∃ e, d = e + 1 := ⟨d - 1, by omega⟩
  have ev := ev_X6_setCurfew (d := d) (n := 191) (c := c) (s := s) (M := mm 183 μ (ob w)) (by omega) hK hB hx
  rcases hk with ⟨v, hv, rfl⟩ | ⟨E, hE, hm⟩
  · obtain ⟨T, r⟩ := res
    obtain rfl : r = .inl v := hv
    refine ⟨c, s, vp_updL w 0 v.toInt64, by omega, by omega, fun v' h => by cases h; rfl, ?_⟩
    refine jv_mk (m := mL_setCurfew) (cd := jcL_setCurfew) rfl rfl (Nat.le_of_ble_eq_true rfl) trivial ?_
    refine JV.ald (p2 := 1) rfl rfl rfl ?_
    refine JV.stk (len := 1) (sem := (s_push (.int 0))) (p2 := 2) rfl rfl rfl ?_
    refine JV.ald (p2 := 3) rfl rfl rfl ?_
    refine JV.ild (p2 := 4) rfl rfl rfl ?_
    refine JV.ild (p2 := 5) rfl rfl rfl ?_
    refine JV.invC (p2 := 8) rfl rfl rfl sy_X (Nat.le_of_ble_eq_true rfl) rfl ev ?_
    refine JV.stk (len := 1) (sem := s_i2l) (p2 := 9) rfl rfl rfl ?_
    refine JV.last (p2 := 10) (j := 0) rfl lm_o rfl (by decide) (by decide) lm_wo rfl ?_
    refine JV.goto rfl ?_
    refine JV.stk (len := 1) (sem := (s_push (.int 0))) (p2 := 18) rfl rfl rfl ?_
    exact JV.ret rfl (fun _ => rfl) rfl rfl
  · obtain ⟨T, r⟩ := res
    obtain rfl : r = .inr E := hE
    refine ⟨c + 1, s + 6, w, by omega, by omega, fun v' h => (nomatch h), ?_⟩
    refine jv_mk (m := mL_setCurfew) (cd := jcL_setCurfew) rfl rfl (Nat.le_of_ble_eq_true rfl) trivial ?_
    refine JV.ald (p2 := 1) rfl rfl rfl ?_
    refine JV.stk (len := 1) (sem := (s_push (.int 0))) (p2 := 2) rfl rfl rfl ?_
    refine JV.ald (p2 := 3) rfl rfl rfl ?_
    refine JV.ild (p2 := 4) rfl rfl rfl ?_
    refine JV.ild (p2 := 5) rfl rfl rfl ?_
    exact JV.invX rfl rfl rfl sy_X (Nat.le_of_ble_eq_true rfl) ev hm
def ct_L_expect : List (String × Int32) := [("java/lang/IllegalArgumentException", 1), ("java/lang/IllegalStateException", 2)]
theorem ev_L_expect {d c s : Nat} {S : Sys} {μ : Mem} {w : Nat → Int64} {p1 : Int32} {p2 : Int32} {p3 : Int32} {p4 : Int32} {B : Nat} {res : Sys × (Int32 ⊕ String)} {k : Int32} (hd : 7 ≤ d) (hK : SK B S) (hB : B + 0 < 2147483648) (hx : x_X6_expect S p1 p2 p3 p4 = res) (hk : (∃ v, res.2 = .inl v ∧ k = 0) ∨ ∃ E, res.2 = .inr E ∧ (E, k) ∈ ct_L_expect) : ∃ (c' s' : Nat) (w' : Nat → Int64), c' ≤ c + 1 ∧ s' ≤ s + 6 ∧ (∀ v, res.2 = .inl v → w' 0 = v.toInt64) ∧ Ev mtab mcode d 161 [.ref 1, .int p1, .int p2, .int p3, .int p4, .ref 190] (191, c, s, lm S μ w) (.inl (some (.int k))) (191, c', s', lm (jS res.2 S res.1) μ w') := by
  obtain ⟨d, rfl⟩ : ∃ e, d = e + 1 := ⟨d - 1, by omega⟩
  have ev := ev_X6_expect (d := d) (n := 191) (c := c) (s := s) (M := mm 183 μ (ob w)) (by omega) hK hB hx
  rcases hk with ⟨v, hv, rfl⟩ | ⟨E, hE, hm⟩
  · obtain ⟨T, r⟩ := res
    obtain rfl : r = .inl v := hv
    refine ⟨c, s, vp_updL w 0 v.toInt64, by omega, by omega, fun v' h => by cases h; rfl, ?_⟩
    refine jv_mk (m := mL_expect) (cd := jcL_expect) rfl rfl (Nat.le_of_ble_eq_true rfl) trivial ?_
    refine JV.ald (p2 := 2) rfl rfl rfl ?_
    refine JV.stk (len := 1) (sem := (s_push (.int 0))) (p2 := 3) rfl rfl rfl ?_
    refine JV.ald (p2 := 4) rfl rfl rfl ?_
    refine JV.ild (p2 := 5) rfl rfl rfl ?_
    refine JV.ild (p2 := 6) rfl rfl rfl ?_
    refine JV.ild (p2 := 7) rfl rfl rfl ?_
    refine JV.ild (p2 := 9) rfl rfl rfl ?_
    refine JV.invC (p2 := 12) rfl rfl rfl sy_X (Nat.le_of_ble_eq_true rfl) rfl ev ?_
    refine JV.stk (len := 1) (sem := s_i2l) (p2 := 13) rfl rfl rfl ?_
    refine JV.last (p2 := 14) (j := 0) rfl lm_o rfl (by decide) (by decide) lm_wo rfl ?_
    refine JV.goto rfl ?_
    refine JV.stk (len := 1) (sem := (s_push (.int 0))) (p2 := 26) rfl rfl rfl ?_
    exact JV.ret rfl (fun _ => rfl) rfl rfl
  · obtain ⟨T, r⟩ := res
    obtain rfl : r = .inr E := hE
    refine ⟨c + 1, s + 6, w, by omega, by omega, fun v' h => (nomatch h), ?_⟩
    refine jv_mk (m := mL_expect) (cd := jcL_expect) rfl rfl (Nat.le_of_ble_eq_true rfl) trivial ?_
    refine JV.ald (p2 := 2) rfl rfl rfl ?_
    refine JV.stk (len := 1) (sem := (s_push (.int 0))) (p2 := 3) rfl rfl rfl ?_
    refine JV.ald (p2 := 4) rfl rfl rfl ?_
    refine JV.ild (p2 := 5) rfl rfl rfl ?_
    refine JV.ild (p2 := 6) rfl rfl rfl ?_
    refine JV.ild (p2 := 7) rfl rfl rfl ?_
    refine JV.ild (p2 := 9) rfl rfl rfl ?_
    exact JV.invX rfl rfl rfl sy_X (Nat.le_of_ble_eq_true rfl) ev hm
def ct_L_setLeaves : List (String × Int32) := [("java/lang/IndexOutOfBoundsException", 1), ("java/lang/IllegalArgumentException", 2), ("java/lang/IllegalStateException", 3)]
theorem ev_L_setLeaves {d c s : Nat} {S : Sys} {μ : Mem} {w : Nat → Int64} {p1 : Int32} {p2 : Int32} {B : Nat} {res : Sys × (Int32 ⊕ String)} {k : Int32} (hd : 7 ≤ d) (hK : SK B S) (hB : B + 0 < 2147483648) (hx : x_X6_setLeaves S p1 p2 = res) (hk : (∃ v, res.2 = .inl v ∧ k = 0) ∨ ∃ E, res.2 = .inr E ∧ (E, k) ∈ ct_L_setLeaves) : ∃ (c' s' : Nat) (w' : Nat → Int64), c' ≤ c + 1 ∧ s' ≤ s + 6 ∧ (∀ v, res.2 = .inl v → w' 0 = v.toInt64) ∧ Ev mtab mcode d 162 [.ref 1, .int p1, .int p2, .ref 190] (191, c, s, lm S μ w) (.inl (some (.int k))) (191, c', s', lm (jS res.2 S res.1) μ w') := by
  obtain ⟨d, rfl⟩ : ∃ e, d = e + 1 := ⟨d - 1, by omega⟩
  have ev := ev_X6_setLeaves (d := d) (n := 191) (c := c) (s := s) (M := mm 183 μ (ob w)) (by omega) hK hB hx
  rcases hk with ⟨v, hv, rfl⟩ | ⟨E, hE, hm⟩
  · obtain ⟨T, r⟩ := res
    obtain rfl : r = .inl v := hv
    refine ⟨c, s, vp_updL w 0 v.toInt64, by omega, by omega, fun v' h => by cases h; rfl, ?_⟩
    refine jv_mk (m := mL_setLeaves) (cd := jcL_setLeaves) rfl rfl (Nat.le_of_ble_eq_true rfl) trivial ?_
    refine JV.ald (p2 := 1) rfl rfl rfl ?_
    refine JV.stk (len := 1) (sem := (s_push (.int 0))) (p2 := 2) rfl rfl rfl ?_
    refine JV.ald (p2 := 3) rfl rfl rfl ?_
    refine JV.ild (p2 := 4) rfl rfl rfl ?_
    refine JV.ild (p2 := 5) rfl rfl rfl ?_
    refine JV.invC (p2 := 8) rfl rfl rfl sy_X (Nat.le_of_ble_eq_true rfl) rfl ev ?_
    refine JV.stk (len := 1) (sem := s_i2l) (p2 := 9) rfl rfl rfl ?_
    refine JV.last (p2 := 10) (j := 0) rfl lm_o rfl (by decide) (by decide) lm_wo rfl ?_
    refine JV.goto rfl ?_
    refine JV.stk (len := 1) (sem := (s_push (.int 0))) (p2 := 26) rfl rfl rfl ?_
    exact JV.ret rfl (fun _ => rfl) rfl rfl
  · obtain ⟨T, r⟩ := res
    obtain rfl : r = .inr E := hE
    refine ⟨c + 1, s + 6, w, by omega, by omega, fun v' h => (nomatch h), ?_⟩
    refine jv_mk (m := mL_setLeaves) (cd := jcL_setLeaves) rfl rfl (Nat.le_of_ble_eq_true rfl) trivial ?_
    refine JV.ald (p2 := 1) rfl rfl rfl ?_
    refine JV.stk (len := 1) (sem := (s_push (.int 0))) (p2 := 2) rfl rfl rfl ?_
    refine JV.ald (p2 := 3) rfl rfl rfl ?_
    refine JV.ild (p2 := 4) rfl rfl rfl ?_
    refine JV.ild (p2 := 5) rfl rfl rfl ?_
    exact JV.invX rfl rfl rfl sy_X (Nat.le_of_ble_eq_true rfl) ev hm
def ct_L_pass : List (String × Int32) := [("java/lang/IllegalArgumentException", 1), ("java/lang/IllegalStateException", 2)]
theorem ev_L_pass {d c s : Nat} {S : Sys} {μ : Mem} {w : Nat → Int64} {p1 : Int32} {B : Nat} {res : Sys × (Int32 ⊕ String)} {k : Int32} (hd : 7 ≤ d) (hK : SK B S) (hB : B + 19500 < 2147483648) (hx : x_X6_pass S p1 = res) (hk : (∃ v, res.2 = .inl v ∧ k = 0) ∨ ∃ E, res.2 = .inr E ∧ (E, k) ∈ ct_L_pass) : ∃ (c' s' : Nat) (w' : Nat → Int64), c' ≤ c + 1 ∧ s' ≤ s + 6 ∧ (∀ v, res.2 = .inl v → w' 0 = v.toInt64) ∧ Ev mtab mcode d 163 [.ref 1, .int p1, .ref 190] (191, c, s, lm S μ w) (.inl (some (.int k))) (191, c', s', lm (jS res.2 S res.1) μ w') := by
  obtain ⟨d, rfl⟩ : ∃ e, d = e + 1 := ⟨d - 1, by omega⟩
  have ev := ev_X6_pass (d := d) (n := 191) (c := c) (s := s) (M := mm 183 μ (ob w)) (by omega) hK hB hx
  rcases hk with ⟨v, hv, rfl⟩ | ⟨E, hE, hm⟩
  · obtain ⟨T, r⟩ := res
    obtain rfl : r = .inl v := hv
    refine ⟨c, s, vp_updL w 0 v.toInt64, by omega, by omega, fun v' h => by cases h; rfl, ?_⟩
    refine jv_mk (m := mL_pass) (cd := jcL_pass) rfl rfl (Nat.le_of_ble_eq_true rfl) trivial ?_
    refine JV.ald (p2 := 1) rfl rfl rfl ?_
    refine JV.stk (len := 1) (sem := (s_push (.int 0))) (p2 := 2) rfl rfl rfl ?_
    refine JV.ald (p2 := 3) rfl rfl rfl ?_
    refine JV.ild (p2 := 4) rfl rfl rfl ?_
    refine JV.invC (p2 := 7) rfl rfl rfl sy_X (Nat.le_of_ble_eq_true rfl) rfl ev ?_
    refine JV.stk (len := 1) (sem := s_i2l) (p2 := 8) rfl rfl rfl ?_
    refine JV.last (p2 := 9) (j := 0) rfl lm_o rfl (by decide) (by decide) lm_wo rfl ?_
    refine JV.goto rfl ?_
    refine JV.stk (len := 1) (sem := (s_push (.int 0))) (p2 := 19) rfl rfl rfl ?_
    exact JV.ret rfl (fun _ => rfl) rfl rfl
  · obtain ⟨T, r⟩ := res
    obtain rfl : r = .inr E := hE
    refine ⟨c + 1, s + 6, w, by omega, by omega, fun v' h => (nomatch h), ?_⟩
    refine jv_mk (m := mL_pass) (cd := jcL_pass) rfl rfl (Nat.le_of_ble_eq_true rfl) trivial ?_
    refine JV.ald (p2 := 1) rfl rfl rfl ?_
    refine JV.stk (len := 1) (sem := (s_push (.int 0))) (p2 := 2) rfl rfl rfl ?_
    refine JV.ald (p2 := 3) rfl rfl rfl ?_
    refine JV.ild (p2 := 4) rfl rfl rfl ?_
    exact JV.invX rfl rfl rfl sy_X (Nat.le_of_ble_eq_true rfl) ev hm
def ct_L_aircraft : List (String × Int32) := [("java/lang/IndexOutOfBoundsException", 1), ("java/lang/IllegalArgumentException", 2)]
theorem ev_L_aircraft {d c s : Nat} {S : Sys} {μ : Mem} {w : Nat → Int64} {p1 : Int32} {p2 : Int32} {B : Nat} {res : (Int32 ⊕ String)} {k : Int32} (hd : 7 ≤ d) (hK : SK B S) (hB : B + 0 < 2147483648) (hx : x_X6_aircraft S p1 p2 = res) (hk : (∃ v, res = .inl v ∧ k = 0) ∨ ∃ E, res = .inr E ∧ (E, k) ∈ ct_L_aircraft) : ∃ (c' s' : Nat) (w' : Nat → Int64), c' ≤ c + 1 ∧ s' ≤ s + 6 ∧ (∀ v, res = .inl v → w' 0 = v.toInt64) ∧ Ev mtab mcode d 164 [.ref 1, .int p1, .int p2, .ref 190] (191, c, s, lm S μ w) (.inl (some (.int k))) (191, c', s', lm S μ w') := by
  obtain ⟨d, rfl⟩ : ∃ e, d = e + 1 := ⟨d - 1, by omega⟩
  have ev := ev_X6_aircraft (d := d) (n := 191) (c := c) (s := s) (M := mm 183 μ (ob w)) (by omega) hK hB hx
  rcases hk with ⟨v, hv, rfl⟩ | ⟨E, hE, hm⟩
  · subst hv
    refine ⟨c, s, vp_updL w 0 v.toInt64, by omega, by omega, fun v' h => by cases h; rfl, ?_⟩
    refine jv_mk (m := mL_aircraft) (cd := jcL_aircraft) rfl rfl (Nat.le_of_ble_eq_true rfl) trivial ?_
    refine JV.ald (p2 := 1) rfl rfl rfl ?_
    refine JV.stk (len := 1) (sem := (s_push (.int 0))) (p2 := 2) rfl rfl rfl ?_
    refine JV.ald (p2 := 3) rfl rfl rfl ?_
    refine JV.ild (p2 := 4) rfl rfl rfl ?_
    refine JV.ild (p2 := 5) rfl rfl rfl ?_
    refine JV.invC (p2 := 8) rfl rfl rfl sy_X (Nat.le_of_ble_eq_true rfl) rfl ev ?_
    refine JV.stk (len := 1) (sem := s_i2l) (p2 := 9) rfl rfl rfl ?_
    refine JV.last (p2 := 10) (j := 0) rfl lm_o rfl (by decide) (by decide) lm_wo rfl ?_
    refine JV.goto rfl ?_
    refine JV.stk (len := 1) (sem := (s_push (.int 0))) (p2 := 22) rfl rfl rfl ?_
    exact JV.ret rfl (fun _ => rfl) rfl rfl
  · subst hE
    refine ⟨c + 1, s + 6, w, by omega, by omega, fun v' h => (nomatch h), ?_⟩
    refine jv_mk (m := mL_aircraft) (cd := jcL_aircraft) rfl rfl (Nat.le_of_ble_eq_true rfl) trivial ?_
    refine JV.ald (p2 := 1) rfl rfl rfl ?_
    refine JV.stk (len := 1) (sem := (s_push (.int 0))) (p2 := 2) rfl rfl rfl ?_
    refine JV.ald (p2 := 3) rfl rfl rfl ?_
    refine JV.ild (p2 := 4) rfl rfl rfl ?_
    refine JV.ild (p2 := 5) rfl rfl rfl ?_
    exact JV.invX rfl rfl rfl sy_X (Nat.le_of_ble_eq_true rfl) ev hm
def ct_L_stand : List (String × Int32) := [("java/lang/IndexOutOfBoundsException", 1), ("java/lang/IllegalArgumentException", 2)]
theorem ev_L_stand {d c s : Nat} {S : Sys} {μ : Mem} {w : Nat → Int64} {p1 : Int32} {p2 : Int32} {B : Nat} {res : (Int32 ⊕ String)} {k : Int32} (hd : 7 ≤ d) (hK : SK B S) (hB : B + 0 < 2147483648) (hx : x_X6_stand S p1 p2 = res) (hk : (∃ v, res = .inl v ∧ k = 0) ∨ ∃ E, res = .inr E ∧ (E, k) ∈ ct_L_stand) : ∃ (c' s' : Nat) (w' : Nat → Int64), c' ≤ c + 1 ∧ s' ≤ s + 6 ∧ (∀ v, res = .inl v → w' 0 = v.toInt64) ∧ Ev mtab mcode d 165 [.ref 1, .int p1, .int p2, .ref 190] (191, c, s, lm S μ w) (.inl (some (.int k))) (191, c', s', lm S μ w') := by
  obtain ⟨d, rfl⟩ : ∃ e, d = e + 1 := ⟨d - 1, by omega⟩
  have ev := ev_X6_stand (d := d) (n := 191) (c := c) (s := s) (M := mm 183 μ (ob w)) (by omega) hK hB hx
  rcases hk with ⟨v, hv, rfl⟩ | ⟨E, hE, hm⟩
  · subst hv
    refine ⟨c, s, vp_updL w 0 v.toInt64, by omega, by omega, fun v' h => by cases h; rfl, ?_⟩
    refine jv_mk (m := mL_stand) (cd := jcL_stand) rfl rfl (Nat.le_of_ble_eq_true rfl) trivial ?_
    refine JV.ald (p2 := 1) rfl rfl rfl ?_
    refine JV.stk (len := 1) (sem := (s_push (.int 0))) (p2 := 2) rfl rfl rfl ?_
    refine JV.ald (p2 := 3) rfl rfl rfl ?_
    refine JV.ild (p2 := 4) rfl rfl rfl ?_
    refine JV.ild (p2 := 5) rfl rfl rfl ?_
    refine JV.invC (p2 := 8) rfl rfl rfl sy_X (Nat.le_of_ble_eq_true rfl) rfl ev ?_
    refine JV.stk (len := 1) (sem := s_i2l) (p2 := 9) rfl rfl rfl ?_
    refine JV.last (p2 := 10) (j := 0) rfl lm_o rfl (by decide) (by decide) lm_wo rfl ?_
    refine JV.goto rfl ?_
    refine JV.stk (len := 1) (sem := (s_push (.int 0))) (p2 := 22) rfl rfl rfl ?_
    exact JV.ret rfl (fun _ => rfl) rfl rfl
  · subst hE
    refine ⟨c + 1, s + 6, w, by omega, by omega, fun v' h => (nomatch h), ?_⟩
    refine jv_mk (m := mL_stand) (cd := jcL_stand) rfl rfl (Nat.le_of_ble_eq_true rfl) trivial ?_
    refine JV.ald (p2 := 1) rfl rfl rfl ?_
    refine JV.stk (len := 1) (sem := (s_push (.int 0))) (p2 := 2) rfl rfl rfl ?_
    refine JV.ald (p2 := 3) rfl rfl rfl ?_
    refine JV.ild (p2 := 4) rfl rfl rfl ?_
    refine JV.ild (p2 := 5) rfl rfl rfl ?_
    exact JV.invX rfl rfl rfl sy_X (Nat.le_of_ble_eq_true rfl) ev hm
def ct_L_tug : List (String × Int32) := [("java/lang/IndexOutOfBoundsException", 1), ("java/lang/IllegalArgumentException", 2)]
theorem ev_L_tug {d c s : Nat} {S : Sys} {μ : Mem} {w : Nat → Int64} {p1 : Int32} {p2 : Int32} {B : Nat} {res : (Int32 ⊕ String)} {k : Int32} (hd : 7 ≤ d) (hK : SK B S) (hB : B + 0 < 2147483648) (hx : x_X6_tug S p1 p2 = res) (hk : (∃ v, res = .inl v ∧ k = 0) ∨ ∃ E, res = .inr E ∧ (E, k) ∈ ct_L_tug) : ∃ (c' s' : Nat) (w' : Nat → Int64), c' ≤ c + 1 ∧ s' ≤ s + 6 ∧ (∀ v, res = .inl v → w' 0 = v.toInt64) ∧ Ev mtab mcode d 166 [.ref 1, .int p1, .int p2, .ref 190] (191, c, s, lm S μ w) (.inl (some (.int k))) (191, c', s', lm S μ w') := by
  obtain ⟨d, rfl⟩ : ∃ e, d = e + 1 := ⟨d - 1, by omega⟩
  have ev := ev_X6_tug (d := d) (n := 191) (c := c) (s := s) (M := mm 183 μ (ob w)) (by omega) hK hB hx
  rcases hk with ⟨v, hv, rfl⟩ | ⟨E, hE, hm⟩
  · subst hv
    refine ⟨c, s, vp_updL w 0 v.toInt64, by omega, by omega, fun v' h => by cases h; rfl, ?_⟩
    refine jv_mk (m := mL_tug) (cd := jcL_tug) rfl rfl (Nat.le_of_ble_eq_true rfl) trivial ?_
    refine JV.ald (p2 := 1) rfl rfl rfl ?_
    refine JV.stk (len := 1) (sem := (s_push (.int 0))) (p2 := 2) rfl rfl rfl ?_
    refine JV.ald (p2 := 3) rfl rfl rfl ?_
    refine JV.ild (p2 := 4) rfl rfl rfl ?_
    refine JV.ild (p2 := 5) rfl rfl rfl ?_
    refine JV.invC (p2 := 8) rfl rfl rfl sy_X (Nat.le_of_ble_eq_true rfl) rfl ev ?_
    refine JV.stk (len := 1) (sem := s_i2l) (p2 := 9) rfl rfl rfl ?_
    refine JV.last (p2 := 10) (j := 0) rfl lm_o rfl (by decide) (by decide) lm_wo rfl ?_
    refine JV.goto rfl ?_
    refine JV.stk (len := 1) (sem := (s_push (.int 0))) (p2 := 22) rfl rfl rfl ?_
    exact JV.ret rfl (fun _ => rfl) rfl rfl
  · subst hE
    refine ⟨c + 1, s + 6, w, by omega, by omega, fun v' h => (nomatch h), ?_⟩
    refine jv_mk (m := mL_tug) (cd := jcL_tug) rfl rfl (Nat.le_of_ble_eq_true rfl) trivial ?_
    refine JV.ald (p2 := 1) rfl rfl rfl ?_
    refine JV.stk (len := 1) (sem := (s_push (.int 0))) (p2 := 2) rfl rfl rfl ?_
    refine JV.ald (p2 := 3) rfl rfl rfl ?_
    refine JV.ild (p2 := 4) rfl rfl rfl ?_
    refine JV.ild (p2 := 5) rfl rfl rfl ?_
    exact JV.invX rfl rfl rfl sy_X (Nat.le_of_ble_eq_true rfl) ev hm
def ct_L_value : List (String × Int32) := [("java/lang/IllegalArgumentException", 1)]
theorem ev_L_value {d c s : Nat} {S : Sys} {μ : Mem} {w : Nat → Int64} {p1 : Int32} {B : Nat} {res : (Int32 ⊕ String)} {k : Int32} (hd : 7 ≤ d) (hK : SK B S) (hB : B + 0 < 2147483648) (hx : x_X6_value S p1 = res) (hk : (∃ v, res = .inl v ∧ k = 0) ∨ ∃ E, res = .inr E ∧ (E, k) ∈ ct_L_value) : ∃ (c' s' : Nat) (w' : Nat → Int64), c' ≤ c + 1 ∧ s' ≤ s + 6 ∧ (∀ v, res = .inl v → w' 0 = v.toInt64) ∧ Ev mtab mcode d 167 [.ref 1, .int p1, .ref 190] (191, c, s, lm S μ w) (.inl (some (.int k))) (191, c', s', lm S μ w') := by
  obtain ⟨d, rfl⟩ : ∃ e, d = e + 1 := ⟨d - 1, by omega⟩
  have ev := ev_X6_value (d := d) (n := 191) (c := c) (s := s) (M := mm 183 μ (ob w)) (by omega) hK hB hx
  rcases hk with ⟨v, hv, rfl⟩ | ⟨E, hE, hm⟩
  · subst hv
    refine ⟨c, s, vp_updL w 0 v.toInt64, by omega, by omega, fun v' h => by cases h; rfl, ?_⟩
    refine jv_mk (m := mL_value) (cd := jcL_value) rfl rfl (Nat.le_of_ble_eq_true rfl) trivial ?_
    refine JV.ald (p2 := 1) rfl rfl rfl ?_
    refine JV.stk (len := 1) (sem := (s_push (.int 0))) (p2 := 2) rfl rfl rfl ?_
    refine JV.ald (p2 := 3) rfl rfl rfl ?_
    refine JV.ild (p2 := 4) rfl rfl rfl ?_
    refine JV.invC (p2 := 7) rfl rfl rfl sy_X (Nat.le_of_ble_eq_true rfl) rfl ev ?_
    refine JV.stk (len := 1) (sem := s_i2l) (p2 := 8) rfl rfl rfl ?_
    refine JV.last (p2 := 9) (j := 0) rfl lm_o rfl (by decide) (by decide) lm_wo rfl ?_
    refine JV.goto rfl ?_
    refine JV.stk (len := 1) (sem := (s_push (.int 0))) (p2 := 16) rfl rfl rfl ?_
    exact JV.ret rfl (fun _ => rfl) rfl rfl
  · subst hE
    refine ⟨c + 1, s + 6, w, by omega, by omega, fun v' h => (nomatch h), ?_⟩
    refine jv_mk (m := mL_value) (cd := jcL_value) rfl rfl (Nat.le_of_ble_eq_true rfl) trivial ?_
    refine JV.ald (p2 := 1) rfl rfl rfl ?_
    refine JV.stk (len := 1) (sem := (s_push (.int 0))) (p2 := 2) rfl rfl rfl ?_
    refine JV.ald (p2 := 3) rfl rfl rfl ?_
    refine JV.ild (p2 := 4) rfl rfl rfl ?_
    exact JV.invX rfl rfl rfl sy_X (Nat.le_of_ble_eq_true rfl) ev hm
def ct_L_event : List (String × Int32) := [("java/lang/IndexOutOfBoundsException", 1), ("java/lang/IllegalArgumentException", 2)]
theorem ev_L_event {d c s : Nat} {S : Sys} {μ : Mem} {w : Nat → Int64} {p1 : Int32} {p2 : Int32} {B : Nat} {res : (Int32 ⊕ String)} {k : Int32} (hd : 7 ≤ d) (hK : SK B S) (hB : B + 0 < 2147483648) (hx : x_X6_event S p1 p2 = res) (hk : (∃ v, res = .inl v ∧ k = 0) ∨ ∃ E, res = .inr E ∧ (E, k) ∈ ct_L_event) : ∃ (c' s' : Nat) (w' : Nat → Int64), c' ≤ c + 1 ∧ s' ≤ s + 6 ∧ (∀ v, res = .inl v → w' 0 = v.toInt64) ∧ Ev mtab mcode d 168 [.ref 1, .int p1, .int p2, .ref 190] (191, c, s, lm S μ w) (.inl (some (.int k))) (191, c', s', lm S μ w') := by
  obtain ⟨d, rfl⟩ : ∃ e, d = e + 1 := ⟨d - 1, by omega⟩
  have ev := ev_X6_event (d := d) (n := 191) (c := c) (s := s) (M := mm 183 μ (ob w)) (by omega) hK hB hx
  rcases hk with ⟨v, hv, rfl⟩ | ⟨E, hE, hm⟩
  · subst hv
    refine ⟨c, s, vp_updL w 0 v.toInt64, by omega, by omega, fun v' h => by cases h; rfl, ?_⟩
    refine jv_mk (m := mL_event) (cd := jcL_event) rfl rfl (Nat.le_of_ble_eq_true rfl) trivial ?_
    refine JV.ald (p2 := 1) rfl rfl rfl ?_
    refine JV.stk (len := 1) (sem := (s_push (.int 0))) (p2 := 2) rfl rfl rfl ?_
    refine JV.ald (p2 := 3) rfl rfl rfl ?_
    refine JV.ild (p2 := 4) rfl rfl rfl ?_
    refine JV.ild (p2 := 5) rfl rfl rfl ?_
    refine JV.invC (p2 := 8) rfl rfl rfl sy_X (Nat.le_of_ble_eq_true rfl) rfl ev ?_
    refine JV.stk (len := 1) (sem := s_i2l) (p2 := 9) rfl rfl rfl ?_
    refine JV.last (p2 := 10) (j := 0) rfl lm_o rfl (by decide) (by decide) lm_wo rfl ?_
    refine JV.goto rfl ?_
    refine JV.stk (len := 1) (sem := (s_push (.int 0))) (p2 := 22) rfl rfl rfl ?_
    exact JV.ret rfl (fun _ => rfl) rfl rfl
  · subst hE
    refine ⟨c + 1, s + 6, w, by omega, by omega, fun v' h => (nomatch h), ?_⟩
    refine jv_mk (m := mL_event) (cd := jcL_event) rfl rfl (Nat.le_of_ble_eq_true rfl) trivial ?_
    refine JV.ald (p2 := 1) rfl rfl rfl ?_
    refine JV.stk (len := 1) (sem := (s_push (.int 0))) (p2 := 2) rfl rfl rfl ?_
    refine JV.ald (p2 := 3) rfl rfl rfl ?_
    refine JV.ild (p2 := 4) rfl rfl rfl ?_
    refine JV.ild (p2 := 5) rfl rfl rfl ?_
    exact JV.invX rfl rfl rfl sy_X (Nat.le_of_ble_eq_true rfl) ev hm
def ct_L_why : List (String × Int32) := [("java/lang/IndexOutOfBoundsException", 1)]
theorem ev_L_why {d c s : Nat} {S : Sys} {μ : Mem} {w : Nat → Int64} {p1 : Int32} {B : Nat} {res : (Int32 ⊕ String)} {k : Int32} (hd : 7 ≤ d) (hK : SK B S) (hB : B + 0 < 2147483648) (hx : x_X6_why S p1 = res) (hk : (∃ v, res = .inl v ∧ k = 0) ∨ ∃ E, res = .inr E ∧ (E, k) ∈ ct_L_why) : ∃ (c' s' : Nat) (w' : Nat → Int64), c' ≤ c + 1 ∧ s' ≤ s + 6 ∧ (∀ v, res = .inl v → w' 0 = v.toInt64) ∧ Ev mtab mcode d 169 [.ref 1, .int p1, .ref 190] (191, c, s, lm S μ w) (.inl (some (.int k))) (191, c', s', lm S μ w') := by
  obtain ⟨d, rfl⟩ : ∃ e, d = e + 1 := ⟨d - 1, by omega⟩
  have ev := ev_X6_why (d := d) (n := 191) (c := c) (s := s) (M := mm 183 μ (ob w)) (by omega) hK hB hx
  rcases hk with ⟨v, hv, rfl⟩ | ⟨E, hE, hm⟩
  · subst hv
    refine ⟨c, s, vp_updL w 0 v.toInt64, by omega, by omega, fun v' h => by cases h; rfl, ?_⟩
    refine jv_mk (m := mL_why) (cd := jcL_why) rfl rfl (Nat.le_of_ble_eq_true rfl) trivial ?_
    refine JV.ald (p2 := 1) rfl rfl rfl ?_
    refine JV.stk (len := 1) (sem := (s_push (.int 0))) (p2 := 2) rfl rfl rfl ?_
    refine JV.ald (p2 := 3) rfl rfl rfl ?_
    refine JV.ild (p2 := 4) rfl rfl rfl ?_
    refine JV.invC (p2 := 7) rfl rfl rfl sy_X (Nat.le_of_ble_eq_true rfl) rfl ev ?_
    refine JV.stk (len := 1) (sem := s_i2l) (p2 := 8) rfl rfl rfl ?_
    refine JV.last (p2 := 9) (j := 0) rfl lm_o rfl (by decide) (by decide) lm_wo rfl ?_
    refine JV.goto rfl ?_
    refine JV.stk (len := 1) (sem := (s_push (.int 0))) (p2 := 16) rfl rfl rfl ?_
    exact JV.ret rfl (fun _ => rfl) rfl rfl
  · subst hE
    refine ⟨c + 1, s + 6, w, by omega, by omega, fun v' h => (nomatch h), ?_⟩
    refine jv_mk (m := mL_why) (cd := jcL_why) rfl rfl (Nat.le_of_ble_eq_true rfl) trivial ?_
    refine JV.ald (p2 := 1) rfl rfl rfl ?_
    refine JV.stk (len := 1) (sem := (s_push (.int 0))) (p2 := 2) rfl rfl rfl ?_
    refine JV.ald (p2 := 3) rfl rfl rfl ?_
    refine JV.ild (p2 := 4) rfl rfl rfl ?_
    exact JV.invX rfl rfl rfl sy_X (Nat.le_of_ble_eq_true rfl) ev hm
def ct_L_delayOf : List (String × Int32) := [("java/lang/IndexOutOfBoundsException", 1)]
theorem ev_L_delayOf {d c s : Nat} {S : Sys} {μ : Mem} {w : Nat → Int64} {p1 : Int32} {B : Nat} {res : Sys × (Int32 ⊕ String)} {k : Int32} (hd : 7 ≤ d) (hK : SK B S) (hB : B + 117000 < 2147483648) (hx : x_X6_delayOf S p1 = res) (hk : (∃ v, res.2 = .inl v ∧ k = 0) ∨ ∃ E, res.2 = .inr E ∧ (E, k) ∈ ct_L_delayOf) : ∃ (c' s' : Nat) (w' : Nat → Int64), c' ≤ c + 1 ∧ s' ≤ s + 6 ∧ (∀ v, res.2 = .inl v → w' 0 = v.toInt64) ∧ Ev mtab mcode d 170 [.ref 1, .int p1, .ref 190] (191, c, s, lm S μ w) (.inl (some (.int k))) (191, c', s', lm (jS res.2 S res.1) μ w') := by
  obtain ⟨d, rfl⟩ : ∃ e, d = e + 1 := ⟨d - 1, by omega⟩
  have ev := ev_X6_delayOf (d := d) (n := 191) (c := c) (s := s) (M := mm 183 μ (ob w)) (by omega) hK hB hx
  rcases hk with ⟨v, hv, rfl⟩ | ⟨E, hE, hm⟩
  · obtain ⟨T, r⟩ := res
    obtain rfl : r = .inl v := hv
    refine ⟨c, s, vp_updL w 0 v.toInt64, by omega, by omega, fun v' h => by cases h; rfl, ?_⟩
    refine jv_mk (m := mL_delayOf) (cd := jcL_delayOf) rfl rfl (Nat.le_of_ble_eq_true rfl) trivial ?_
    refine JV.ald (p2 := 1) rfl rfl rfl ?_
    refine JV.stk (len := 1) (sem := (s_push (.int 0))) (p2 := 2) rfl rfl rfl ?_
    refine JV.ald (p2 := 3) rfl rfl rfl ?_
    refine JV.ild (p2 := 4) rfl rfl rfl ?_
    refine JV.invC (p2 := 7) rfl rfl rfl sy_X (Nat.le_of_ble_eq_true rfl) rfl ev ?_
    refine JV.stk (len := 1) (sem := s_i2l) (p2 := 8) rfl rfl rfl ?_
    refine JV.last (p2 := 9) (j := 0) rfl lm_o rfl (by decide) (by decide) lm_wo rfl ?_
    refine JV.goto rfl ?_
    refine JV.stk (len := 1) (sem := (s_push (.int 0))) (p2 := 16) rfl rfl rfl ?_
    exact JV.ret rfl (fun _ => rfl) rfl rfl
  · obtain ⟨T, r⟩ := res
    obtain rfl : r = .inr E := hE
    refine ⟨c + 1, s + 6, w, by omega, by omega, fun v' h => (nomatch h), ?_⟩
    refine jv_mk (m := mL_delayOf) (cd := jcL_delayOf) rfl rfl (Nat.le_of_ble_eq_true rfl) trivial ?_
    refine JV.ald (p2 := 1) rfl rfl rfl ?_
    refine JV.stk (len := 1) (sem := (s_push (.int 0))) (p2 := 2) rfl rfl rfl ?_
    refine JV.ald (p2 := 3) rfl rfl rfl ?_
    refine JV.ild (p2 := 4) rfl rfl rfl ?_
    exact JV.invX rfl rfl rfl sy_X (Nat.le_of_ble_eq_true rfl) ev hm
def ct_L_delaysWithTug : List (String × Int32) := [("java/lang/IllegalArgumentException", 1)]
theorem ev_L_delaysWithTug {d c s : Nat} {S : Sys} {μ : Mem} {w : Nat → Int64} {p1 : Int32} {B : Nat} {res : Sys × (Int32 ⊕ String)} {k : Int32} (hd : 7 ≤ d) (hK : SK B S) (hB : B + 117000 < 2147483648) (hx : x_X6_delaysWithTug S p1 = res) (hk : (∃ v, res.2 = .inl v ∧ k = 0) ∨ ∃ E, res.2 = .inr E ∧ (E, k) ∈ ct_L_delaysWithTug) : ∃ (c' s' : Nat) (w' : Nat → Int64), c' ≤ c + 1 ∧ s' ≤ s + 6 ∧ (∀ v, res.2 = .inl v → w' 0 = v.toInt64) ∧ Ev mtab mcode d 171 [.ref 1, .int p1, .ref 190] (191, c, s, lm S μ w) (.inl (some (.int k))) (191, c', s', lm (jS res.2 S res.1) μ w') := by
  obtain ⟨d, rfl⟩ : ∃ e, d = e + 1 := ⟨d - 1, by omega⟩
  have ev := ev_X6_delaysWithTug (d := d) (n := 191) (c := c) (s := s) (M := mm 183 μ (ob w)) (by omega) hK hB hx
  rcases hk with ⟨v, hv, rfl⟩ | ⟨E, hE, hm⟩
  · obtain ⟨T, r⟩ := res
    obtain rfl : r = .inl v := hv
    refine ⟨c, s, vp_updL w 0 v.toInt64, by omega, by omega, fun v' h => by cases h; rfl, ?_⟩
    refine jv_mk (m := mL_delaysWithTug) (cd := jcL_delaysWithTug) rfl rfl (Nat.le_of_ble_eq_true rfl) trivial ?_
    refine JV.ald (p2 := 1) rfl rfl rfl ?_
    refine JV.stk (len := 1) (sem := (s_push (.int 0))) (p2 := 2) rfl rfl rfl ?_
    refine JV.ald (p2 := 3) rfl rfl rfl ?_
    refine JV.ild (p2 := 4) rfl rfl rfl ?_
    refine JV.invC (p2 := 7) rfl rfl rfl sy_X (Nat.le_of_ble_eq_true rfl) rfl ev ?_
    refine JV.stk (len := 1) (sem := s_i2l) (p2 := 8) rfl rfl rfl ?_
    refine JV.last (p2 := 9) (j := 0) rfl lm_o rfl (by decide) (by decide) lm_wo rfl ?_
    refine JV.goto rfl ?_
    refine JV.stk (len := 1) (sem := (s_push (.int 0))) (p2 := 16) rfl rfl rfl ?_
    exact JV.ret rfl (fun _ => rfl) rfl rfl
  · obtain ⟨T, r⟩ := res
    obtain rfl : r = .inr E := hE
    refine ⟨c + 1, s + 6, w, by omega, by omega, fun v' h => (nomatch h), ?_⟩
    refine jv_mk (m := mL_delaysWithTug) (cd := jcL_delaysWithTug) rfl rfl (Nat.le_of_ble_eq_true rfl) trivial ?_
    refine JV.ald (p2 := 1) rfl rfl rfl ?_
    refine JV.stk (len := 1) (sem := (s_push (.int 0))) (p2 := 2) rfl rfl rfl ?_
    refine JV.ald (p2 := 3) rfl rfl rfl ?_
    refine JV.ild (p2 := 4) rfl rfl rfl ?_
    exact JV.invX rfl rfl rfl sy_X (Nat.le_of_ble_eq_true rfl) ev hm
def ct_L_append : List (String × Int32) := [("java/lang/IllegalArgumentException", 1), ("java/lang/IllegalStateException", 2)]
theorem ev_L_append {d c s : Nat} {S : Sys} {μ : Mem} {w : Nat → Int64} {p1 : Int32} {B : Nat} {res : Sys × (Int32 ⊕ String)} {k : Int32} (hd : 7 ≤ d) (hK : SK B S) (hB : B + 0 < 2147483648) (hx : x_X6_append S p1 = res) (hk : (∃ v, res.2 = .inl v ∧ k = 0) ∨ ∃ E, res.2 = .inr E ∧ (E, k) ∈ ct_L_append) : ∃ (c' s' : Nat) (w' : Nat → Int64), c' ≤ c + 1 ∧ s' ≤ s + 6 ∧ (∀ v, res.2 = .inl v → w' 0 = v.toInt64) ∧ Ev mtab mcode d 172 [.ref 1, .int p1, .ref 190] (191, c, s, lm S μ w) (.inl (some (.int k))) (191, c', s', lm (jS res.2 S res.1) μ w') := by
  obtain ⟨d, rfl⟩ : ∃ e, d = e + 1 := ⟨d - 1, by omega⟩
  have ev := ev_X6_append (d := d) (n := 191) (c := c) (s := s) (M := mm 183 μ (ob w)) (by omega) hK hB hx
  rcases hk with ⟨v, hv, rfl⟩ | ⟨E, hE, hm⟩
  · obtain ⟨T, r⟩ := res
    obtain rfl : r = .inl v := hv
    refine ⟨c, s, vp_updL w 0 v.toInt64, by omega, by omega, fun v' h => by cases h; rfl, ?_⟩
    refine jv_mk (m := mL_append) (cd := jcL_append) rfl rfl (Nat.le_of_ble_eq_true rfl) trivial ?_
    refine JV.ald (p2 := 1) rfl rfl rfl ?_
    refine JV.stk (len := 1) (sem := (s_push (.int 0))) (p2 := 2) rfl rfl rfl ?_
    refine JV.ald (p2 := 3) rfl rfl rfl ?_
    refine JV.ild (p2 := 4) rfl rfl rfl ?_
    refine JV.invC (p2 := 7) rfl rfl rfl sy_X (Nat.le_of_ble_eq_true rfl) rfl ev ?_
    refine JV.stk (len := 1) (sem := s_i2l) (p2 := 8) rfl rfl rfl ?_
    refine JV.last (p2 := 9) (j := 0) rfl lm_o rfl (by decide) (by decide) lm_wo rfl ?_
    refine JV.goto rfl ?_
    refine JV.stk (len := 1) (sem := (s_push (.int 0))) (p2 := 19) rfl rfl rfl ?_
    exact JV.ret rfl (fun _ => rfl) rfl rfl
  · obtain ⟨T, r⟩ := res
    obtain rfl : r = .inr E := hE
    refine ⟨c + 1, s + 6, w, by omega, by omega, fun v' h => (nomatch h), ?_⟩
    refine jv_mk (m := mL_append) (cd := jcL_append) rfl rfl (Nat.le_of_ble_eq_true rfl) trivial ?_
    refine JV.ald (p2 := 1) rfl rfl rfl ?_
    refine JV.stk (len := 1) (sem := (s_push (.int 0))) (p2 := 2) rfl rfl rfl ?_
    refine JV.ald (p2 := 3) rfl rfl rfl ?_
    refine JV.ild (p2 := 4) rfl rfl rfl ?_
    exact JV.invX rfl rfl rfl sy_X (Nat.le_of_ble_eq_true rfl) ev hm
def ct_L_undo : List (String × Int32) := [("java/lang/IllegalStateException", 1)]
theorem ev_L_undo {d c s : Nat} {S : Sys} {μ : Mem} {w : Nat → Int64} {B : Nat} {res : Sys × (Int32 ⊕ String)} {k : Int32} (hd : 7 ≤ d) (hK : SK B S) (hx : x_X6_undo S = res) (hk : (∃ v, res.2 = .inl v ∧ k = 0) ∨ ∃ E, res.2 = .inr E ∧ (E, k) ∈ ct_L_undo) : ∃ (c' s' : Nat) (w' : Nat → Int64), c' ≤ c + 1 ∧ s' ≤ s + 6 ∧ (∀ v, res.2 = .inl v → w' 0 = v.toInt64) ∧ Ev mtab mcode d 173 [.ref 1, .ref 190] (191, c, s, lm S μ w) (.inl (some (.int k))) (191, c', s', lm (jS res.2 S res.1) μ w') := by
  obtain ⟨d, rfl⟩ : ∃ e, d = e + 1 := ⟨d - 1, by omega⟩
  have ev := ev_X6_undo (d := d) (n := 191) (c := c) (s := s) (M := mm 183 μ (ob w)) (by omega) hK hx
  rcases hk with ⟨v, hv, rfl⟩ | ⟨E, hE, hm⟩
  · obtain ⟨T, r⟩ := res
    obtain rfl : r = .inl v := hv
    refine ⟨c, s, vp_updL w 0 v.toInt64, by omega, by omega, fun v' h => by cases h; rfl, ?_⟩
    refine jv_mk (m := mL_undo) (cd := jcL_undo) rfl rfl (Nat.le_of_ble_eq_true rfl) trivial ?_
    refine JV.ald (p2 := 1) rfl rfl rfl ?_
    refine JV.stk (len := 1) (sem := (s_push (.int 0))) (p2 := 2) rfl rfl rfl ?_
    refine JV.ald (p2 := 3) rfl rfl rfl ?_
    refine JV.invC (p2 := 6) rfl rfl rfl sy_X (Nat.le_of_ble_eq_true rfl) rfl ev ?_
    refine JV.stk (len := 1) (sem := s_i2l) (p2 := 7) rfl rfl rfl ?_
    refine JV.last (p2 := 8) (j := 0) rfl lm_o rfl (by decide) (by decide) lm_wo rfl ?_
    refine JV.goto rfl ?_
    refine JV.stk (len := 1) (sem := (s_push (.int 0))) (p2 := 15) rfl rfl rfl ?_
    exact JV.ret rfl (fun _ => rfl) rfl rfl
  · obtain ⟨T, r⟩ := res
    obtain rfl : r = .inr E := hE
    refine ⟨c + 1, s + 6, w, by omega, by omega, fun v' h => (nomatch h), ?_⟩
    refine jv_mk (m := mL_undo) (cd := jcL_undo) rfl rfl (Nat.le_of_ble_eq_true rfl) trivial ?_
    refine JV.ald (p2 := 1) rfl rfl rfl ?_
    refine JV.stk (len := 1) (sem := (s_push (.int 0))) (p2 := 2) rfl rfl rfl ?_
    refine JV.ald (p2 := 3) rfl rfl rfl ?_
    exact JV.invX rfl rfl rfl sy_X (Nat.le_of_ble_eq_true rfl) ev hm
