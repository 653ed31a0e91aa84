/-! runs of the light machine, step by step -/
def JR (E : JE) (cd : List (Nat × JA)) (f : JF) (h : JH) (o : JO) (hf : JH) : Prop := ∃ k, JG E cd k f h o hf
section JRS
variable {E : JE} {cd : List (Nat × JA)} {pc p2 : Nat} {l : List (Nat × Value)} {st r : List Value} {h h' hf : JH} {o : JO} {n c s : Nat} {M M' : JM}
theorem JR.one {act : JA} {f' : JF} (hl : jlk cd pc = some act) (ha : act (pc, l, st) h = some (.inl (f', h'))) (k : JR E cd f' h' o hf) : JR E cd (pc, l, st) h o hf := by
  obtain ⟨k, hk⟩ := k
  refine ⟨k + 1, act, hl, ?_⟩
  show jst E (JG E cd k) (act (pc, l, st) h) h o hf
  rw [ha]
  exact hk
theorem JR.stk {len : Nat} {sem : List Value → Option (List Value)} {st' : List Value} (hl : jlk cd pc = some (a_stk len sem)) (hs : sem st = some st') (hp : pc + len = p2) (k : JR E cd (p2, l, st') h o hf) : JR E cd (pc, l, st) h o hf := by
  subst hp
  refine JR.one hl ?_ k
  unfold a_stk
  dsimp only
  rw [hs]
theorem JR.ild {len i : Nat} {x : Int32} (hl : jlk cd pc = some (a_ild len i)) (hv : jlv l i = some (.int x)) (hp : pc + len = p2) (k : JR E cd (p2, l, .int x :: st) h o hf) : JR E cd (pc, l, st) h o hf := by
  subst hp
  refine JR.one hl ?_ k
  unfold a_ild
  dsimp only
  rw [hv]
theorem JR.ald {len i q : Nat} (hl : jlk cd pc = some (a_ald len i)) (hv : jlv l i = some (.ref q)) (hp : pc + len = p2) (k : JR E cd (p2, l, .ref q :: st) h o hf) : JR E cd (pc, l, st) h o hf := by
  subst hp
  refine JR.one hl ?_ k
  unfold a_ald
  dsimp only
  rw [hv]
theorem JR.lld {len i : Nat} {x : Int64} (hl : jlk cd pc = some (a_lld len i)) (hv : jlv l i = some (.long x)) (hp : pc + len = p2) (k : JR E cd (p2, l, .long x :: st) h o hf) : JR E cd (pc, l, st) h o hf := by
  subst hp
  refine JR.one hl ?_ k
  unfold a_lld
  dsimp only
  rw [hv]
theorem JR.dld {len i : Nat} {x : UInt64} (hl : jlk cd pc = some (a_dld len i)) (hv : jlv l i = some (.double x)) (hp : pc + len = p2) (k : JR E cd (p2, l, .double x :: st) h o hf) : JR E cd (pc, l, st) h o hf := by
  subst hp
  refine JR.one hl ?_ k
  unfold a_dld
  dsimp only
  rw [hv]
theorem JR.ist {len i : Nat} {x : Int32} {l' : List (Nat × Value)} (hl : jlk cd pc = some (a_ist len i)) (hl' : (i, Value.int x) :: l.filter (fun q => !(q.1 == i) && !(q.1 + 1 == i && q.2.category == 2)) = l') (hp : pc + len = p2) (k : JR E cd (p2, l', r) h o hf) : JR E cd (pc, l, .int x :: r) h o hf := by
  subst hp
  subst hl'
  exact JR.one hl rfl k
theorem JR.ast {len i q : Nat} {l' : List (Nat × Value)} (hl : jlk cd pc = some (a_ast len i)) (hl' : (i, Value.ref q) :: l.filter (fun q => !(q.1 == i) && !(q.1 + 1 == i && q.2.category == 2)) = l') (hp : pc + len = p2) (k : JR E cd (p2, l', r) h o hf) : JR E cd (pc, l, .ref q :: r) h o hf := by
  subst hp
  subst hl'
  exact JR.one hl rfl k
theorem JR.lst {len i : Nat} {x : Int64} {l' : List (Nat × Value)} (hl : jlk cd pc = some (a_lst len i)) (hl' : (i, Value.long x) :: l.filter (fun q => !(q.1 == i) && (!(q.1 == i + 1) && !(q.1 + 1 == i && q.2.category == 2))) = l') (hp : pc + len = p2) (k : JR E cd (p2, l', r) h o hf) : JR E cd (pc, l, .long x :: r) h o hf := by
  subst hp
  subst hl'
  exact JR.one hl rfl k
theorem JR.dst {len i : Nat} {x : UInt64} {l' : List (Nat × Value)} (hl : jlk cd pc = some (a_dst len i)) (hl' : (i, Value.double x) :: l.filter (fun q => !(q.1 == i) && (!(q.1 == i + 1) && !(q.1 + 1 == i && q.2.category == 2))) = l') (hp : pc + len = p2) (k : JR E cd (p2, l', r) h o hf) : JR E cd (pc, l, .double x :: r) h o hf := by
  subst hp
  subst hl'
  exact JR.one hl rfl k
theorem JR.iinc {i : Nat} {d x y : Int32} {l' : List (Nat × Value)} (hl : jlk cd pc = some (a_iinc i d)) (hv : jlv l i = some (.int x)) (hy : x + d = y) (hl' : (i, Value.int y) :: l.filter (fun q => !(q.1 == i) && !(q.1 + 1 == i && q.2.category == 2)) = l') (hp : pc + 3 = p2) (k : JR E cd (p2, l', st) h o hf) : JR E cd (pc, l, st) h o hf := by
  subst hp
  subst hl'
  subst hy
  refine JR.one hl ?_ k
  unfold a_iinc
  dsimp only
  rw [hv]
theorem JR.goto {t : Nat} (hl : jlk cd pc = some (a_goto t)) (k : JR E cd (t, l, st) h o hf) : JR E cd (pc, l, st) h o hf := JR.one hl rfl k
theorem JR.ldc2 {v : Int64} (hl : jlk cd pc = some (a_ldc2 v)) (hp : pc + 3 = p2) (k : JR E cd (p2, l, .long v :: st) h o hf) : JR E cd (pc, l, st) h o hf := by
  subst hp
  exact JR.one hl rfl k
theorem JR.br {t : Nat} {sem : List Value → Option (Bool × List Value)} {C : Prop} [Decidable C] {st' : List Value} (hl : jlk cd pc = some (a_br t sem)) (hs : sem st = some (decide C, st')) (hp : pc + 3 = p2) (kt : C → JR E cd (t, l, st') h o hf) (kf : ¬ C → JR E cd (p2, l, st') h o hf) : JR E cd (pc, l, st) h o hf := by
  subst hp
  by_cases hc : C
  · refine JR.one hl ?_ (kt hc)
    unfold a_br
    dsimp only
    rw [hs, decide_eq_true hc]
    rfl
  · refine JR.one hl ?_ (kf hc)
    unfold a_br
    dsimp only
    rw [hs, decide_eq_false hc]
    rfl
/-- a branch whose way is known -/
theorem JR.brT {t : Nat} {sem : List Value → Option (Bool × List Value)} {C : Prop} [Decidable C] {st' : List Value} (hl : jlk cd pc = some (a_br t sem)) (hs : sem st = some (decide C, st')) (hc : C) (kt : JR E cd (t, l, st') h o hf) : JR E cd (pc, l, st) h o hf := JR.br hl hs rfl (fun _ => kt) (fun q => absurd hc q)
theorem JR.brF {t : Nat} {sem : List Value → Option (Bool × List Value)} {C : Prop} [Decidable C] {st' : List Value} (hl : jlk cd pc = some (a_br t sem)) (hs : sem st = some (decide C, st')) (hp : pc + 3 = p2) (hc : ¬ C) (kf : JR E cd (p2, l, st') h o hf) : JR E cd (pc, l, st) h o hf := JR.br hl hs hp (fun q => absurd q hc) (fun _ => kf)
theorem JR.sw {ts : List Nat} {d t : Nat} {x : Int32} (hl : jlk cd pc = some (a_sw ts d)) (ht : (if x < 0 then d else ts.getD x.toNatClampNeg d) = t) (k : JR E cd (t, l, r) h o hf) : JR E cd (pc, l, .int x :: r) h o hf := by
  subst ht
  exact JR.one hl rfl k
theorem JR.getf {ci k q : Nat} {fs : List Value} {v : Value} (hl : jlk cd pc = some (a_getf ci k)) (hM : M q = .inr (ci, fs)) (hv : fs[k]? = some v) (hp : pc + 3 = p2) (kk : JR E cd (p2, l, v :: r) (n, c, s, M) o hf) : JR E cd (pc, l, .ref q :: r) (n, c, s, M) o hf := by
  subst hp
  refine JR.one hl ?_ kk
  unfold a_getf
  dsimp only
  rw [hM]
  dsimp only
  rw [if_pos rfl, hv]
theorem JR.puti {ci k q : Nat} {fs : List Value} {x : Int32} (hl : jlk cd pc = some (a_puti ci k)) (hM : M q = .inr (ci, fs)) (hk : k < fs.length) (hM' : va_up M q (.inr (ci, fs.set k (.int x))) = M') (hp : pc + 3 = p2) (kk : JR E cd (p2, l, r) (n, c, s, M') o hf) : JR E cd (pc, l, .int x :: .ref q :: r) (n, c, s, M) o hf := by
  subst hp
  subst hM'
  refine JR.one hl ?_ kk
  unfold a_puti
  dsimp only
  rw [hM]
  dsimp only
  rw [if_pos ⟨rfl, hk⟩]
theorem JR.iald {t q len : Nat} {i : Int32} {xs : Nat → Int32} (hl : jlk cd pc = some (a_iald t)) (hM : M q = .inl (t, len, .inl xs)) (hin : jin i len = true) (hp : pc + 1 = p2) {v : Int32} (hv : xs i.toNatClampNeg = v) (kk : JR E cd (p2, l, .int v :: r) (n, c, s, M) o hf) : JR E cd (pc, l, .int i :: .ref q :: r) (n, c, s, M) o hf := by
  subst hp
  subst hv
  refine JR.one hl ?_ kk
  unfold a_iald
  dsimp only
  rw [hM]
  dsimp only
  rw [if_pos ⟨rfl, hin⟩]
theorem JR.iast {q len : Nat} {i x : Int32} {xs : Nat → Int32} (hl : jlk cd pc = some a_iast) (hM : M q = .inl (0, len, .inl xs)) (hin : jin i len = true) (hM' : va_up M q (.inl (0, len, .inl (upd xs i.toNatClampNeg x))) = M') (hp : pc + 1 = p2) (kk : JR E cd (p2, l, r) (n, c, s, M') o hf) : JR E cd (pc, l, .int x :: .int i :: .ref q :: r) (n, c, s, M) o hf := by
  subst hp
  subst hM'
  refine JR.one hl ?_ kk
  unfold a_iast
  dsimp only
  rw [hM]
  dsimp only
  rw [if_pos ⟨rfl, hin⟩]
theorem JR.zast {q len : Nat} {i x : Int32} {xs : Nat → Int32} (hl : jlk cd pc = some a_zast) (hM : M q = .inl (1, len, .inl xs)) (hin : jin i len = true) (hM' : va_up M q (.inl (1, len, .inl (upd xs i.toNatClampNeg (vp_nar .boolean x)))) = M') (hp : pc + 1 = p2) (kk : JR E cd (p2, l, r) (n, c, s, M') o hf) : JR E cd (pc, l, .int x :: .int i :: .ref q :: r) (n, c, s, M) o hf := by
  subst hp
  subst hM'
  refine JR.one hl ?_ kk
  unfold a_zast
  dsimp only
  rw [hM]
  dsimp only
  rw [if_pos ⟨rfl, hin⟩]
theorem JR.aald {t q len y : Nat} {i : Int32} {xs : Nat → Option Nat} (hl : jlk cd pc = some (a_aald t)) (hM : M q = .inl (t, len, .inr (.inr (.inr (.inr xs))))) (hin : jin i len = true) (hy : xs i.toNatClampNeg = some y) (hp : pc + 1 = p2) (kk : JR E cd (p2, l, .ref y :: r) (n, c, s, M) o hf) : JR E cd (pc, l, .int i :: .ref q :: r) (n, c, s, M) o hf := by
  subst hp
  refine JR.one hl ?_ kk
  unfold a_aald
  dsimp only
  rw [hM]
  dsimp only
  rw [if_pos ⟨rfl, hin⟩, hy]
  rfl
theorem JR.mmax {x y : Int32} (hl : jlk cd pc = some a_mmax) (hr : jcat r ≤ 8) (hp : pc + 3 = p2) (k : JR E cd (p2, l, .int (if x < y then y else x) :: r) h o hf) : JR E cd (pc, l, .int y :: .int x :: r) h o hf := by
  subst hp
  refine JR.one hl ?_ k
  unfold a_mmax
  dsimp only
  rw [if_pos hr]
theorem JR.mmin {x y : Int32} (hl : jlk cd pc = some a_mmin) (hr : jcat r ≤ 8) (hp : pc + 3 = p2) (k : JR E cd (p2, l, .int (if y < x then y else x) :: r) h o hf) : JR E cd (pc, l, .int y :: .int x :: r) h o hf := by
  subst hp
  refine JR.one hl ?_ k
  unfold a_mmin
  dsimp only
  rw [if_pos hr]
theorem JR.copy {q q0 n0 n1 : Nat} {nn dp sp : Int32} {xs ys : Nat → Int32} (hl : jlk cd pc = some a_copy) (hM0 : M q0 = .inl (0, n0, .inl xs)) (hM1 : M q = .inl (0, n1, .inl ys)) (hr : jcat r ≤ 8) (h1 : ¬ sp < 0) (h2 : ¬ dp < 0) (h3 : ¬ nn < 0) (h4 : sp.toNatClampNeg + nn.toNatClampNeg ≤ n0) (h5 : dp.toNatClampNeg + nn.toNatClampNeg ≤ n1) (hM' : va_up M q (.inl (0, n1, .inl (va_cpy xs ys sp.toNatClampNeg dp.toNatClampNeg nn.toNatClampNeg))) = M') (hp : pc + 3 = p2) (kk : JR E cd (p2, l, r) (n, c, s, M') o hf) : JR E cd (pc, l, .int nn :: .int dp :: .ref q :: .int sp :: .ref q0 :: r) (n, c, s, M) o hf := by
  subst hp
  subst hM'
  refine JR.one hl ?_ kk
  unfold a_copy
  dsimp only
  rw [hM0, hM1]
  dsimp only
  rw [if_pos ⟨rfl, rfl, hr, h1, h2, h3, h4, h5⟩]
theorem JR.retv {m : Nat} {v : Option Value} (hl : jlk cd pc = some (a_ret m)) (ha : a_ret m (pc, l, st) h = some (.inr (.inr (.inl v)))) (ho : o = .inl v) (hh : hf = h) : JR E cd (pc, l, st) h o hf := by
  subst ho
  subst hh
  refine ⟨1, _, hl, ?_⟩
  show jst E _ (a_ret m (pc, l, st) hf) hf _ hf
  rw [ha]
  exact ⟨rfl, rfl⟩
theorem JR.thr {X : String} (hl : jlk cd pc = some (a_thr X)) (hr : jcat st ≤ 8) : JR E cd (pc, l, st) h (.inr X) (jbump h) := by
  refine ⟨1, _, hl, ?_⟩
  show jst E _ (a_thr X (pc, l, st) h) h _ _
  unfold a_thr
  dsimp only
  rw [if_pos hr]
  exact ⟨rfl, rfl⟩
theorem JR.call {act : JA} {μ : Nat} {as : List Value} {f' : JF} {ct : List (String × Int32)} {rv : Option Value} {h1 : JH} (hl : jlk cd pc = some act) (ha : act (pc, l, st) h = some (.inr (.inl (μ, as, f', ct)))) (hE : E μ as h (.inl rv) h1) (hn : h1.1 = h.1 ∨ jfr h.1 f' = true) (k : JR E cd (f'.1, f'.2.1, rv.toList ++ f'.2.2) h1 o hf) : JR E cd (pc, l, st) h o hf := by
  obtain ⟨k, hk⟩ := k
  refine ⟨k + 1, act, hl, ?_⟩
  show jst E (JG E cd k) (act (pc, l, st) h) h o hf
  rw [ha]
  exact Or.inl ⟨rv, h1, hE, hn, hk⟩
theorem JR.callX {act : JA} {μ : Nat} {as : List Value} {f' : JF} {ct : List (String × Int32)} {X : String} {kv : Int32} {h1 : JH} (hl : jlk cd pc = some act) (ha : act (pc, l, st) h = some (.inr (.inl (μ, as, f', ct)))) (hE : E μ as h (.inr X) h1) (hc : (X, kv) ∈ ct) : JR E cd (pc, l, st) h (.inl (some (.int kv))) h1 := by
  refine ⟨1, act, hl, ?_⟩
  show jst E _ (act (pc, l, st) h) h _ _
  rw [ha]
  exact Or.inr ⟨X, kv, h1, hE, hc, rfl, rfl⟩
theorem JR.inv1 {μ k ci q : Nat} {ct : List (String × Int32)} {fs : List Value} {as : List Value} {rv : Option Value} {M1 : JM} (hl : jlk cd pc = some (a_inv μ k ci ct)) (hst : st.drop k = .ref q :: r) (has : (st.take k).reverse = as) (hM : M q = .inr (ci, fs)) (hr : jcat r ≤ 8) (hp : pc + 3 = p2) (hE : E μ (.ref q :: as) (n, c, s, M) (.inl rv) (n, c, s, M1)) (kk : JR E cd (p2, l, rv.toList ++ r) (n, c, s, M1) o hf) : JR E cd (pc, l, st) (n, c, s, M) o hf := by
  subst hp
  subst has
  refine JR.call (ct := ct) (f' := (pc + 3, l, r)) hl ?_ hE (Or.inl rfl) kk
  unfold a_inv
  dsimp only
  rw [hst]
  dsimp only
  rw [hM]
  dsimp only
  rw [if_pos ⟨rfl, hr⟩]
theorem JR.ins1 {μ k : Nat} {as : List Value} {rv : Option Value} {h1 : JH} (hl : jlk cd pc = some (a_ins μ k)) (hk : k ≤ st.length) (has : (st.take k).reverse = as) (hst : st.drop k = r) (hr : jcat r ≤ 8) (hp : pc + 3 = p2) (hE : E μ as h (.inl rv) h1) (hn : h1.1 = h.1) (kk : JR E cd (p2, l, rv.toList ++ r) h1 o hf) : JR E cd (pc, l, st) h o hf := by
  subst hp
  subst has
  subst hst
  refine JR.call (ct := []) (f' := (pc + 3, l, st.drop k)) hl ?_ hE (Or.inl hn) kk
  unfold a_ins
  dsimp only
  rw [if_pos ⟨hk, hr⟩]
end JRS
/-- a method's big step out of its run -/
theorem ev_mk {d μ : Nat} {m : JM5} {cd : List (Nat × JA)} {as : List Value} {h hf : JH} {v : Option Value} (hm : mtab μ = m) (hc : mcode μ = cd) (hn : (lg_sl as).length ≤ m.2.2.1) (hv : jrv m.2.2.2.1 v) (hJ : JR (Ev mtab mcode d) cd (0, lv_args 0 as, []) h (.inl v) hf) : Ev mtab mcode (d + 1) μ as h (.inl v) hf := by
  subst hm
  subst hc
  exact ⟨⟨hn, hv⟩, (fun x e => by cases e), hJ⟩
theorem ev_mkX {d μ : Nat} {m : JM5} {cd : List (Nat × JA)} {as : List Value} {h : JH} {X : String} (hm : mtab μ = m) (hc : mcode μ = cd) (hn : (lg_sl as).length ≤ m.2.2.1) (hd : 6 ≤ d + 1) (hh : m.2.2.2.2 = none) (hJ : JR (Ev mtab mcode d) cd (0, lv_args 0 as, []) h (.inr X) (jbump h)) : Ev mtab mcode (d + 1) μ as h (.inr X) (jbump h) := by
  subst hm
  subst hc
  exact ⟨⟨hn, hd, hh⟩, fun x e => rfl, hJ⟩
