/-! the constructors -/
section JRN
variable {E : JE} {cd : List (Nat × JA)} {pc p2 n c s : Nat} {l : List (Nat × Value)} {st r : List Value} {h h1 hf : JH} {o : JO} {M : JM}
theorem JR.new {ci N : Nat} {fs : List Value} (hl : jlk cd pc = some (a_new ci N fs)) (h1 : l.all (fun q => vfb n q.2) = true) (h2 : st.all (vfb n) = true) (hp : pc + 3 = p2) (kk : JR E cd (p2, l, .ref n :: st) (n + 1, c + 1, s + N, va_up M n (.inr (ci, fs))) o hf) : JR E cd (pc, l, st) (n, c, s, M) o hf := by
  subst hp
  refine JR.one hl ?_ kk
  unfold a_new
  dsimp only
  rw [if_pos ⟨h1, h2⟩]
theorem JR.newi {t K : Nat} {x : Int32} (hl : jlk cd pc = some (a_newi t)) (h1 : l.all (fun q => vfb n q.2) = true) (h2 : r.all (vfb n) = true) (hx : ¬ x < 0) (hK : x.toNatClampNeg = K) (hK2 : K ≤ 65536) (hp : pc + 2 = p2) (kk : JR E cd (p2, l, .ref n :: r) (n + 1, c + 1, s + K, va_up M n (.inl (t, K, .inl (fun _ => 0)))) o hf) : JR E cd (pc, l, .int x :: r) (n, c, s, M) o hf := by
  subst hp
  subst hK
  refine JR.one hl ?_ kk
  unfold a_newi
  dsimp only
  rw [if_pos ⟨h1, h2, hx, hK2⟩]
theorem JR.newq {t K : Nat} {x : Int32} (hl : jlk cd pc = some (a_newq t)) (h1 : l.all (fun q => vfb n q.2) = true) (h2 : r.all (vfb n) = true) (hx : ¬ x < 0) (hK : x.toNatClampNeg = K) (hK2 : K ≤ 65536) (hp : pc + 3 = p2) (kk : JR E cd (p2, l, .ref n :: r) (n + 1, c + 1, s + K, va_up M n (.inl (t, K, .inr (.inr (.inr (.inr (fun _ => none))))))) o hf) : JR E cd (pc, l, .int x :: r) (n, c, s, M) o hf := by
  subst hp
  subst hK
  refine JR.one hl ?_ kk
  unfold a_newq
  dsimp only
  rw [if_pos ⟨h1, h2, hx, hK2⟩]
theorem JR.putr {ci k q x : Nat} {fs : List Value} (hl : jlk cd pc = some (a_putr ci k)) (hM : M q = .inr (ci, fs)) (hk : k < fs.length) (hx : x < n) (hp : pc + 3 = p2) (kk : JR E cd (p2, l, r) (n, c, s, va_up M q (.inr (ci, fs.set k (.ref x)))) o hf) : JR E cd (pc, l, .ref x :: .ref q :: r) (n, c, s, M) o hf := by
  subst hp
  refine JR.one hl ?_ kk
  unfold a_putr
  dsimp only
  rw [hM]
  dsimp only
  rw [if_pos ⟨rfl, hk, hx⟩]
theorem JR.aast {t ci len q x j : Nat} {i : Int32} {xs : Nat → Option Nat} {fs : List Value} (hl : jlk cd pc = some (a_aast t ci)) (hM : M q = .inl (t, len, .inr (.inr (.inr (.inr xs))))) (hi : i = nI j) (hj : j < len) (hn : len < 2 ^ 31) (hX : M x = .inr (ci, fs)) (hp : pc + 1 = p2) (kk : JR E cd (p2, l, r) (n, c, s, va_up M q (.inl (t, len, .inr (.inr (.inr (.inr (va_up xs j (some x)))))))) o hf) : JR E cd (pc, l, .ref x :: .int i :: .ref q :: r) (n, c, s, M) o hf := by
  subst hp
  subst hi
  refine JR.one hl ?_ kk
  unfold a_aast
  dsimp only
  rw [hM]
  dsimp only
  rw [if_pos ⟨rfl, jin_nI hj hn⟩, hX]
  dsimp only
  rw [if_pos rfl, nI_clamp (Nat.lt_trans hj hn)]
theorem JR.oini {q : Nat} (hl : jlk cd pc = some a_oini) (hr : jcat r ≤ 8) (hp : pc + 3 = p2) (kk : JR E cd (p2, l, r) h o hf) : JR E cd (pc, l, .ref q :: r) h o hf := by
  subst hp
  refine JR.one hl ?_ kk
  unfold a_oini
  dsimp only
  rw [if_pos hr]
theorem JR.ini {μ k q : Nat} {as : List Value} (hl : jlk cd pc = some (a_ini μ k)) (hst : st.drop k = .ref q :: r) (has : (st.take k).reverse = as) (hr : jcat r ≤ 8) (hp : pc + 3 = p2) (hE : E μ (.ref q :: as) h (.inl none) h1) (hn : jfr h.1 (p2, l, r) = true) (kk : JR E cd (p2, l, r) h1 o hf) : JR E cd (pc, l, st) h o hf := by
  subst hp
  subst has
  refine JR.call (ct := []) (f' := (pc + 3, l, r)) hl ?_ hE (Or.inr hn) kk
  unfold a_ini
  dsimp only
  rw [hst]
  dsimp only
  rw [if_pos hr]
end JRN
theorem va1 {n b : Nat} (h : b < n) : ([(0, Value.ref b)] : List (Nat × Value)).all (fun q => vfb n q.2) = true := by simp [vfb, h]
theorem va3 {n b : Nat} {x : Int32} (h : b < n) : ([(1, Value.int x), (0, Value.ref b)] : List (Nat × Value)).all (fun q => vfb n q.2) = true := by simp [vfb, h]
theorem vs1 {n b : Nat} (h : b < n) : ([Value.ref b] : List Value).all (vfb n) = true := by simp [vfb, h]
theorem vs2 {n b q : Nat} (h : b < n) (g : q < n) : ([Value.ref b, Value.ref q] : List Value).all (vfb n) = true := by simp [vfb, h, g]
theorem vsi {n b : Nat} {x : Int32} (h : b < n) : ([Value.int x, Value.ref b] : List Value).all (vfb n) = true := by simp [vfb, h]
theorem vsi2 {n b q : Nat} {x : Int32} (g : q < n) (h : b < n) : ([Value.ref q, Value.int x, Value.ref b] : List Value).all (vfb n) = true := by simp [vfb, h, g]
section INI
variable {d n c s b q k : Nat} {M : JM}
theorem ev_X0_init : Ev mtab mcode (d + 1) 0 [.ref q] (n, c, s, M) (.inl none) (n, c, s, M) := by
  refine ev_mk (m := mX0_init) (cd := jcX0_init) rfl rfl (Nat.le_of_ble_eq_true rfl) trivial ?_
  refine JR.ald (p2 := 1) rfl rfl rfl ?_
  refine JR.oini (p2 := 4) rfl (Nat.le_of_ble_eq_true rfl) rfl ?_
  exact JR.retv (m := 4) rfl rfl rfl rfl
theorem ev_X3_init : Ev mtab mcode (d + 1) 44 [.ref q] (n, c, s, M) (.inl none) (n, c, s, M) := by
  refine ev_mk (m := mX3_init) (cd := jcX3_init) rfl rfl (Nat.le_of_ble_eq_true rfl) trivial ?_
  refine JR.ald (p2 := 1) rfl rfl rfl ?_
  refine JR.oini (p2 := 4) rfl (Nat.le_of_ble_eq_true rfl) rfl ?_
  exact JR.retv (m := 4) rfl rfl rfl rfl
theorem ev_X5_init : Ev mtab mcode (d + 1) 56 [.ref q] (n, c, s, M) (.inl none) (n, c, s, M) := by
  refine ev_mk (m := mX5_init) (cd := jcX5_init) rfl rfl (Nat.le_of_ble_eq_true rfl) trivial ?_
  refine JR.ald (p2 := 1) rfl rfl rfl ?_
  refine JR.oini (p2 := 4) rfl (Nat.le_of_ble_eq_true rfl) rfl ?_
  exact JR.retv (m := 4) rfl rfl rfl rfl
def mz : Mem := fun _ _ _ => 0
def z1 : Nat → Int32 := fun _ => 0
/-- the log's rows -/
def lgm (b : Nat) (M : JM) : JM := fun q => if q = b then .inr (2, [.ref (b + 1), .ref (b + 2), .ref (b + 3), .int 0]) else if b < q ∧ q < b + 4 then cI 30 z1 else M q
theorem ev_X2_init (hM : M b = .inr (2, [.null, .null, .null, .int 0])) : Ev mtab mcode (d + 1) 39 [.ref b] (b + 1, c, s, M) (.inl none) (b + 4, c + 3, s + 90, lgm b M) := by
  refine ev_mk (m := mX2_init) (cd := jcX2_init) rfl rfl (Nat.le_of_ble_eq_true rfl) trivial ?_
  refine JR.ald (p2 := 1) rfl rfl rfl ?_
  refine JR.oini (p2 := 4) rfl (Nat.le_of_ble_eq_true rfl) rfl ?_
  refine JR.ald (p2 := 5) rfl rfl rfl ?_
  refine JR.stk (len := 2) (sem := (s_push (.int 30))) (p2 := 7) rfl rfl rfl ?_
  refine JR.newi (p2 := 9) (K := 30) rfl (va1 (by omega)) (vs1 (by omega)) (by decide) (by decide) (by decide) rfl ?_
  refine JR.putr (p2 := 12) rfl ((va_up_ne _ _ (by omega)).trans hM) (Nat.le_of_ble_eq_true rfl) (by omega) rfl ?_
  refine JR.ald (p2 := 13) rfl rfl rfl ?_
  refine JR.stk (len := 2) (sem := (s_push (.int 30))) (p2 := 15) rfl rfl rfl ?_
  refine JR.newi (p2 := 17) (K := 30) rfl (va1 (by omega)) (vs1 (by omega)) (by decide) (by decide) (by decide) rfl ?_
  refine JR.putr (p2 := 20) rfl ((va_up_ne _ _ (by omega)).trans (va_up_self _ _ _)) (Nat.le_of_ble_eq_true rfl) (by omega) rfl ?_
  refine JR.ald (p2 := 21) rfl rfl rfl ?_
  refine JR.stk (len := 2) (sem := (s_push (.int 30))) (p2 := 23) rfl rfl rfl ?_
  refine JR.newi (p2 := 25) (K := 30) rfl (va1 (by omega)) (vs1 (by omega)) (by decide) (by decide) (by decide) rfl ?_
  refine JR.putr (p2 := 28) rfl ((va_up_ne _ _ (by omega)).trans (va_up_self _ _ _)) (Nat.le_of_ble_eq_true rfl) (by omega) rfl ?_
  refine JR.retv (m := 4) rfl rfl rfl ?_
  refine Prod.ext rfl (Prod.ext rfl (Prod.ext rfl ?_))
  funext q
  show lgm b M q = _
  unfold lgm
  dsimp only
  by_cases e : q = b
  · subst e
    rw [if_pos rfl, va_up_self]
    rfl
  · rw [if_neg e, va_up_ne _ _ e]
    by_cases e3 : q = b + 1 + 1 + 1
    · subst e3
      rw [if_pos (by omega), va_up_self]
      rfl
    · rw [va_up_ne _ _ e3, va_up_ne _ _ e]
      by_cases e2 : q = b + 1 + 1
      · subst e2
        rw [if_pos (by omega), va_up_self]
        rfl
      · rw [va_up_ne _ _ e2, va_up_ne _ _ e]
        by_cases e1 : q = b + 1
        · subst e1
          rw [if_pos (by omega), va_up_self]
          rfl
        · rw [va_up_ne _ _ e1, if_neg (by omega)]
end INI
