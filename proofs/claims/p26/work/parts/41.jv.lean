/-! runs over a canonical list of known locals, sorted: so that paths meet again -/
def jLE (env l : List (Nat × Value)) : Prop := ∀ q ∈ env, jlv l q.1 = some q.2
def JV (E : JE) (cd : List (Nat × JA)) (f : JF) (h : JH) (o : JO) (hf : JH) : Prop := ∀ l, jLE f.2.1 l → JR E cd (f.1, l, f.2.2) h o hf
def eins : List (Nat × Value) → Nat → Value → List (Nat × Value)
  | [], i, v => [(i, v)]
  | q :: r, i, v => if q.1 < i then q :: eins r i v else (i, v) :: q :: r
def est1 (env : List (Nat × Value)) (i : Nat) (v : Value) : List (Nat × Value) := eins (env.filter (fun q => !(q.1 == i) && !(q.1 + 1 == i && q.2.category == 2))) i v
def est2 (env : List (Nat × Value)) (i : Nat) (v : Value) : List (Nat × Value) := eins (env.filter (fun q => !(q.1 == i) && (!(q.1 == i + 1) && !(q.1 + 1 == i && q.2.category == 2)))) i v
theorem mem_eins {i : Nat} {v : Value} {q : Nat × Value} : ∀ {e : List (Nat × Value)}, q ∈ eins e i v → q = (i, v) ∨ q ∈ e
  | [], h => Or.inl (List.mem_singleton.mp h)
  | p :: r, h => by
    unfold eins at h
    split at h
    · rcases List.mem_cons.mp h with h | h
      · exact Or.inr (h ▸ List.mem_cons_self)
      · rcases mem_eins h with h | h
        · exact Or.inl h
        · exact Or.inr (List.mem_cons_of_mem _ h)
    · rcases List.mem_cons.mp h with h | h
      · exact Or.inl h
      · exact Or.inr h
theorem jlv_filter {g : Nat × Value → Bool} {i : Nat} {v : Value} : ∀ {l : List (Nat × Value)}, jlv l i = some v → g (i, v) = true → jlv (l.filter g) i = some v
  | [], h, _ => by cases h
  | q :: r, h, hg => by
    unfold jlv at h
    by_cases e : q.1 = i
    · rw [if_pos e] at h
      cases h
      have e2 : q = (i, q.2) := by rw [← e]
      rw [List.filter_cons, if_pos (by rw [e2]; exact hg)]
      unfold jlv
      rw [if_pos e]
    · rw [if_neg e] at h
      rw [List.filter_cons]
      split
      · unfold jlv
        rw [if_neg e]
        exact jlv_filter h hg
      · exact jlv_filter h hg
theorem jLE_st {g : Nat × Value → Bool} {env l : List (Nat × Value)} {i : Nat} {v : Value} (hg : ∀ q, g q = true → q.1 ≠ i) (h : jLE env l) : jLE (eins (env.filter g) i v) ((i, v) :: l.filter g) := by
  intro q hq
  unfold jlv
  rcases mem_eins hq with rfl | hq
  · rw [if_pos rfl]
  · obtain ⟨hm, hp⟩ := List.mem_filter.mp hq
    rw [if_neg (fun e => hg q hp e.symm)]
    exact jlv_filter (h q hm) hp
theorem jLE_st1 {env l : List (Nat × Value)} {i : Nat} {v : Value} (h : jLE env l) : jLE (est1 env i v) ((i, v) :: l.filter (fun q => !(q.1 == i) && !(q.1 + 1 == i && q.2.category == 2))) :=
  jLE_st (fun q hq e => by
    have := (Bool.and_eq_true _ _).mp hq |>.1
    rw [e] at this
    simp at this) h
theorem jLE_st2 {env l : List (Nat × Value)} {i : Nat} {v : Value} (h : jLE env l) : jLE (est2 env i v) ((i, v) :: l.filter (fun q => !(q.1 == i) && (!(q.1 == i + 1) && !(q.1 + 1 == i && q.2.category == 2)))) :=
  jLE_st (fun q hq e => by
    have := (Bool.and_eq_true _ _).mp hq |>.1
    rw [e] at this
    simp at this) h
theorem jLE_args : ∀ (vs : List Value) (i : Nat), jLE (lv_args i vs) (lv_args i vs) ∧ ∀ q ∈ lv_args i vs, i ≤ q.1
  | [], i => ⟨fun q (h : q ∈ []) => (List.not_mem_nil h).elim, fun q (h : q ∈ []) => (List.not_mem_nil h).elim⟩
  | v :: vs, i => by
    have ih := jLE_args vs (if v.category = 2 then i + 2 else i + 1)
    have hle : i + 1 ≤ (if v.category = 2 then i + 2 else i + 1) := by split <;> omega
    refine ⟨fun q h => ?_, fun q h => ?_⟩
    · rcases List.mem_cons.mp h with rfl | h
      · show (if i = i then some v else _) = some v
        rw [if_pos rfl]
      · have h2 := ih.2 q h
        show (if i = q.1 then some v else jlv (lv_args _ vs) q.1) = some q.2
        rw [if_neg (by omega)]
        exact ih.1 q h
    · rcases List.mem_cons.mp h with rfl | h
      · exact Nat.le_refl _
      · have h2 := ih.2 q h
        omega
section JVS
variable {E : JE} {cd : List (Nat × JA)} {pc p2 : Nat} {l : List (Nat × Value)} {st r : List Value} {h h' hf : JH} {o : JO} {n c s : Nat} {M M' : JM}
theorem jLE.at {env l : List (Nat × Value)} {i : Nat} {v : Value} (h : jLE env l) (hv : jlv env i = some v) : jlv l i = some v := h (i, v) (jlv_mem hv)
theorem JV.stk {len : Nat} {sem : List Value → Option (List Value)} {st' : List Value} (hl : jlk cd pc = some (a_stk len sem)) (hs : sem st = some st') (hp : pc + len = p2) (k : JV E cd (p2, l, st') h o hf) : JV E cd (pc, l, st) h o hf := fun e he => JR.stk hl hs hp (k e he)
theorem JV.ild {len i : Nat} {x : Int32} (hl : jlk cd pc = some (a_ild len i)) (hv : jlv l i = some (.int x)) (hp : pc + len = p2) (k : JV E cd (p2, l, .int x :: st) h o hf) : JV E cd (pc, l, st) h o hf := fun e he => JR.ild hl (jLE.at he hv) hp (k e he)
theorem JV.ald {len i q : Nat} (hl : jlk cd pc = some (a_ald len i)) (hv : jlv l i = some (.ref q)) (hp : pc + len = p2) (k : JV E cd (p2, l, .ref q :: st) h o hf) : JV E cd (pc, l, st) h o hf := fun e he => JR.ald hl (jLE.at he hv) hp (k e he)
theorem JV.lld {len i : Nat} {x : Int64} (hl : jlk cd pc = some (a_lld len i)) (hv : jlv l i = some (.long x)) (hp : pc + len = p2) (k : JV E cd (p2, l, .long x :: st) h o hf) : JV E cd (pc, l, st) h o hf := fun e he => JR.lld hl (jLE.at he hv) hp (k e he)
theorem JV.dld {len i : Nat} {x : UInt64} (hl : jlk cd pc = some (a_dld len i)) (hv : jlv l i = some (.double x)) (hp : pc + len = p2) (k : JV E cd (p2, l, .double x :: st) h o hf) : JV E cd (pc, l, st) h o hf := fun e he => JR.dld hl (jLE.at he hv) hp (k e he)
theorem JV.ist {len i : Nat} {x : Int32} {l' : List (Nat × Value)} (hl : jlk cd pc = some (a_ist len i)) (hl' : est1 l i (.int x) = l') (hp : pc + len = p2) (k : JV E cd (p2, l', r) h o hf) : JV E cd (pc, l, .int x :: r) h o hf := fun e he => JR.ist hl rfl hp (k _ (hl' ▸ jLE_st1 he))
theorem JV.ast {len i q : Nat} {l' : List (Nat × Value)} (hl : jlk cd pc = some (a_ast len i)) (hl' : est1 l i (.ref q) = l') (hp : pc + len = p2) (k : JV E cd (p2, l', r) h o hf) : JV E cd (pc, l, .ref q :: r) h o hf := fun e he => JR.ast hl rfl hp (k _ (hl' ▸ jLE_st1 he))
theorem JV.lst {len i : Nat} {x : Int64} {l' : List (Nat × Value)} (hl : jlk cd pc = some (a_lst len i)) (hl' : est2 l i (.long x) = l') (hp : pc + len = p2) (k : JV E cd (p2, l', r) h o hf) : JV E cd (pc, l, .long x :: r) h o hf := fun e he => JR.lst hl rfl hp (k _ (hl' ▸ jLE_st2 he))
theorem JV.dst {len i : Nat} {x : UInt64} {l' : List (Nat × Value)} (hl : jlk cd pc = some (a_dst len i)) (hl' : est2 l i (.double x) = l') (hp : pc + len = p2) (k : JV E cd (p2, l', r) h o hf) : JV E cd (pc, l, .double x :: r) h o hf := fun e he => JR.dst hl rfl hp (k _ (hl' ▸ jLE_st2 he))
theorem JV.iinc {i : Nat} {d x y : Int32} {l' : List (Nat × Value)} (hl : jlk cd pc = some (a_iinc i d)) (hv : jlv l i = some (.int x)) (hy : x + d = y) (hl' : est1 l i (.int y) = l') (hp : pc + 3 = p2) (k : JV E cd (p2, l', st) h o hf) : JV E cd (pc, l, st) h o hf := fun e he => JR.iinc hl (jLE.at he hv) hy rfl hp (k _ (hl' ▸ jLE_st1 he))
theorem JV.goto {t : Nat} (hl : jlk cd pc = some (a_goto t)) (k : JV E cd (t, l, st) h o hf) : JV E cd (pc, l, st) h o hf := fun e he => JR.goto hl (k e he)
theorem JV.ldc2 {v : Int64} (hl : jlk cd pc = some (a_ldc2 v)) (hp : pc + 3 = p2) (k : JV E cd (p2, l, .long v :: st) h o hf) : JV E cd (pc, l, st) h o hf := fun e he => JR.ldc2 hl hp (k e he)
theorem JV.brT {t : Nat} {sem : List Value → Option (Bool × List Value)} {C : Prop} [Decidable C] {st' : List Value} (hl : jlk cd pc = some (a_br t sem)) (hs : sem st = some (decide C, st')) (hc : C) (kt : JV E cd (t, l, st') h o hf) : JV E cd (pc, l, st) h o hf := fun e he => JR.brT hl hs hc (kt e he)
theorem JV.brF {t : Nat} {sem : List Value → Option (Bool × List Value)} {C : Prop} [Decidable C] {st' : List Value} (hl : jlk cd pc = some (a_br t sem)) (hs : sem st = some (decide C, st')) (hp : pc + 3 = p2) (hc : ¬ C) (kf : JV E cd (p2, l, st') h o hf) : JV E cd (pc, l, st) h o hf := fun e he => JR.brF hl hs hp hc (kf e he)
theorem JV.sw {ts : List Nat} {d t : Nat} {x : Int32} (hl : jlk cd pc = some (a_sw ts d)) (ht : (if x < 0 then d else ts.getD x.toNatClampNeg d) = t) (k : JV E cd (t, l, r) h o hf) : JV E cd (pc, l, .int x :: r) h o hf := fun e he => JR.sw hl ht (k e he)
theorem JV.getf {ci k q : Nat} {fs : List Value} {v : Value} (hl : jlk cd pc = some (a_getf ci k)) (hM : M q = .inr (ci, fs)) (hv : fs[k]? = some v) (hp : pc + 3 = p2) (kk : JV E cd (p2, l, v :: r) (n, c, s, M) o hf) : JV E cd (pc, l, .ref q :: r) (n, c, s, M) o hf := fun e he => JR.getf hl hM hv hp (kk e he)
theorem JV.puti {ci k q : Nat} {fs : List Value} {x : Int32} (hl : jlk cd pc = some (a_puti ci k)) (hM : M q = .inr (ci, fs)) (hk : k < fs.length) (hM' : va_up M q (.inr (ci, fs.set k (.int x))) = M') (hp : pc + 3 = p2) (kk : JV E cd (p2, l, r) (n, c, s, M') o hf) : JV E cd (pc, l, .int x :: .ref q :: r) (n, c, s, M) o hf := fun e he => JR.puti hl hM hk hM' hp (kk e he)
theorem JV.iald {t q len : Nat} {i : Int32} {j : Nat} {xs : Nat → Int32} (hl : jlk cd pc = some (a_iald t)) (hM : M q = .inl (t, len, .inl xs)) (hi : i = nI j) (hj : j < len) (hn : len < 2 ^ 31) (hp : pc + 1 = p2) (kk : JV E cd (p2, l, .int (xs j) :: r) (n, c, s, M) o hf) : JV E cd (pc, l, .int i :: .ref q :: r) (n, c, s, M) o hf := by
  subst hi
  exact fun e he => JR.iald hl hM (jin_nI hj hn) hp (congrArg xs (nI_clamp (Nat.lt_trans hj hn))) (kk e he)
theorem JV.iast {q len : Nat} {i x : Int32} {j : Nat} {xs : Nat → Int32} (hl : jlk cd pc = some a_iast) (hM : M q = .inl (0, len, .inl xs)) (hi : i = nI j) (hj : j < len) (hn : len < 2 ^ 31) (hM' : va_up M q (.inl (0, len, .inl (upd xs j x))) = M') (hp : pc + 1 = p2) (kk : JV E cd (p2, l, r) (n, c, s, M') o hf) : JV E cd (pc, l, .int x :: .int i :: .ref q :: r) (n, c, s, M) o hf := by
  subst hi
  exact fun e he => JR.iast hl hM (jin_nI hj hn) ((nI_clamp (Nat.lt_trans hj hn)).symm ▸ hM') hp (kk e he)
theorem JV.zast {q len : Nat} {i x : Int32} {j : Nat} {xs : Nat → Int32} (hl : jlk cd pc = some a_zast) (hM : M q = .inl (1, len, .inl xs)) (hi : i = nI j) (hj : j < len) (hn : len < 2 ^ 31) (hM' : va_up M q (.inl (1, len, .inl (upd xs j (vp_nar .boolean x)))) = M') (hp : pc + 1 = p2) (kk : JV E cd (p2, l, r) (n, c, s, M') o hf) : JV E cd (pc, l, .int x :: .int i :: .ref q :: r) (n, c, s, M) o hf := by
  subst hi
  exact fun e he => JR.zast hl hM (jin_nI hj hn) ((nI_clamp (Nat.lt_trans hj hn)).symm ▸ hM') hp (kk e he)
theorem JV.aald {t q len y : Nat} {i : Int32} {j : Nat} {xs : Nat → Option Nat} (hl : jlk cd pc = some (a_aald t)) (hM : M q = .inl (t, len, .inr (.inr (.inr (.inr xs))))) (hi : i = nI j) (hj : j < len) (hn : len < 2 ^ 31) (hy : xs j = some y) (hp : pc + 1 = p2) (kk : JV E cd (p2, l, .ref y :: r) (n, c, s, M) o hf) : JV E cd (pc, l, .int i :: .ref q :: r) (n, c, s, M) o hf := by
  subst hi
  exact fun e he => JR.aald hl hM (jin_nI hj hn) ((nI_clamp (Nat.lt_trans hj hn)).symm ▸ hy) hp (kk e he)
theorem JV.mmax {x y : Int32} (hl : jlk cd pc = some a_mmax) (hr : jcat r ≤ 8) (hp : pc + 3 = p2) (k : JV E cd (p2, l, .int (if x < y then y else x) :: r) h o hf) : JV E cd (pc, l, .int y :: .int x :: r) h o hf := fun e he => JR.mmax hl hr hp (k e he)
theorem JV.mmin {x y : Int32} (hl : jlk cd pc = some a_mmin) (hr : jcat r ≤ 8) (hp : pc + 3 = p2) (k : JV E cd (p2, l, .int (if y < x then y else x) :: r) h o hf) : JV E cd (pc, l, .int y :: .int x :: r) h o hf := fun e he => JR.mmin hl hr hp (k e he)
theorem JV.ret {m : Nat} {v : Option Value} (hl : jlk cd pc = some (a_ret m)) (ha : ∀ e, a_ret m (pc, e, st) h = some (.inr (.inr (.inl v)))) (ho : o = .inl v) (hh : hf = h) : JV E cd (pc, l, st) h o hf := fun e _ => JR.retv hl (ha e) ho hh
theorem JV.thr {X : String} (hl : jlk cd pc = some (a_thr X)) (hr : jcat st ≤ 8) : JV E cd (pc, l, st) h (.inr X) (jbump h) := fun _ _ => JR.thr hl hr
theorem JV.inv {μ k ci q : Nat} {fs : List Value} {as : List Value} {rv : Option Value} {M1 : JM} (hl : jlk cd pc = some (a_inv μ k ci [])) (hst : st.drop k = .ref q :: r) (has : (st.take k).reverse = as) (hM : M q = .inr (ci, fs)) (hr : jcat r ≤ 8) (hp : pc + 3 = p2) (hE : E μ (.ref q :: as) (n, c, s, M) (.inl rv) (n, c, s, M1)) (kk : JV E cd (p2, l, rv.toList ++ r) (n, c, s, M1) o hf) : JV E cd (pc, l, st) (n, c, s, M) o hf := fun e he => JR.inv1 hl hst has hM hr hp hE (kk e he)
theorem JV.ins {μ k : Nat} {as : List Value} {rv : Option Value} {h1 : JH} (hl : jlk cd pc = some (a_ins μ k)) (hk : k ≤ st.length) (has : (st.take k).reverse = as) (hst : st.drop k = r) (hr : jcat r ≤ 8) (hp : pc + 3 = p2) (hE : E μ as h (.inl rv) h1) (hn : h1.1 = h.1) (kk : JV E cd (p2, l, rv.toList ++ r) h1 o hf) : JV E cd (pc, l, st) h o hf := fun e he => JR.ins1 hl hk has hst hr hp hE hn (kk e he)
/-- only the locals of these numbers are known from here on -/
theorem JV.keep {l' : List (Nat × Value)} (ks : List Nat) (he : l.filter (fun q => ks.contains q.1) = l') (k : JV E cd (pc, l', st) h o hf) : JV E cd (pc, l, st) h o hf := fun e hle => k e (fun q hq => by
  subst he
  exact hle q (List.mem_filter.mp hq).1)
theorem jv_mk {d μ : Nat} {m : JM5} {cd : List (Nat × JA)} {as : List Value} {h hf : JH} {v : Option Value} (hm : mtab μ = m) (hc : mcode μ = cd) (hn : (lg_sl as).length ≤ m.2.2.1) (hv : jrv m.2.2.2.1 v) (hJ : JV (Ev mtab mcode d) cd (0, lv_args 0 as, []) h (.inl v) hf) : Ev mtab mcode (d + 1) μ as h (.inl v) hf := ev_mk hm hc hn hv (hJ _ (jLE_args as 0).1)
theorem jv_mkX {d μ : Nat} {m : JM5} {cd : List (Nat × JA)} {as : List Value} {h : JH} {X : String} (hm : mtab μ = m) (hc : mcode μ = cd) (hn : (lg_sl as).length ≤ m.2.2.1) (hd : 6 ≤ d + 1) (hh : m.2.2.2.2 = none) (hJ : JV (Ev mtab mcode d) cd (0, lv_args 0 as, []) h (.inr X) (jbump h)) : Ev mtab mcode (d + 1) μ as h (.inr X) (jbump h) := ev_mkX hm hc hn hd hh (hJ _ (jLE_args as 0).1)
end JVS

/-! a block of cells laid out from families of ints -/
abbrev Mem : Type := Nat → Nat → Nat → Int32
def up3 (m : Mem) (f i k : Nat) (v : Int32) : Mem := fun f' i' k' => if f' = f ∧ i' = i ∧ k' = k then v else m f' i' k'
theorem up3_self (m : Mem) (f i k : Nat) (v : Int32) : up3 m f i k v f i k = v := by simp [up3]
theorem up3_ne {m : Mem} {f i k f' i' k' : Nat} {v : Int32} (h : ¬ (f' = f ∧ i' = i ∧ k' = k)) : up3 m f i k v f' i' k' = m f' i' k' := by simp only [up3, if_neg h]
theorem up3_row (m : Mem) (f i k : Nat) (v : Int32) : up3 m f i k v f i = upd (m f i) k v := by
  funext j
  by_cases e : j = k
  · simp [up3, upd, e]
  · simp [up3, upd, e]
theorem up3_rows {m : Mem} {f i k f' i' : Nat} {v : Int32} (h : ¬ (f' = f ∧ i' = i)) : up3 m f i k v f' i' = m f' i' := by
  funext j
  exact up3_ne (fun q => h ⟨q.1, q.2.1⟩)
/-- a unit's layout: how many cells, each cell's contents from its row, which row -/
abbrev Lay : Type := Nat × (Nat → Nat → (Nat → Int32) → JC) × (Nat → Nat × Nat)
def um (L : Lay) (b : Nat) (m : Mem) (M : JM) : JM := fun q => if b ≤ q ∧ q < b + L.1 then L.2.1 b (q - b) (m (L.2.2 (q - b)).1 (L.2.2 (q - b)).2) else M q
theorem um_rd {L : Lay} {b r : Nat} {m : Mem} {M : JM} (h : r < L.1) : um L b m M (b + r) = L.2.1 b r (m (L.2.2 r).1 (L.2.2 r).2) := by
  unfold um
  rw [if_pos ⟨Nat.le_add_right _ _, by omega⟩, show b + r - b = r by omega]
theorem um_out {L : Lay} {b q : Nat} {m : Mem} {M : JM} (h : ¬ (b ≤ q ∧ q < b + L.1)) : um L b m M q = M q := if_neg h
theorem um_wr {L : Lay} {b r k : Nat} {m : Mem} {M : JM} {v : Int32} {C : JC} (h : r < L.1) (hi : ∀ r', r' < L.1 → r' ≠ r → ¬ ((L.2.2 r').1 = (L.2.2 r).1 ∧ (L.2.2 r').2 = (L.2.2 r).2)) (hC : C = L.2.1 b r (upd (m (L.2.2 r).1 (L.2.2 r).2) k v)) : va_up (um L b m M) (b + r) C = um L b (up3 m (L.2.2 r).1 (L.2.2 r).2 k v) M := by
  funext q
  by_cases e : q = b + r
  · subst e
    rw [va_up_self, um_rd h, up3_row, hC]
  · rw [va_up_ne _ _ e]
    unfold um
    by_cases g : b ≤ q ∧ q < b + L.1
    · rw [if_pos g, if_pos g, up3_rows (hi _ (by omega) (by omega))]
    · rw [if_neg g, if_neg g]
/-! the field: b itself, its rows b + 1 to b + 3, the log b + 4 with its rows, then 6 stands, 3 tugs, 12 aircraft -/
def cF (b : Nat) (g : Nat → Int32) : JC := .inr (1, [.ref (b + 1), .ref (b + 2), .ref (b + 3), .ref (b + 4), .int (g 0), .int (g 1), .int (g 2), .int (g 3), .int (g 4), .int (g 5)])
def cA (g : Nat → Int32) : JC := .inr (0, [.int (g 0), .int (g 1), .int (g 2), .int (g 3), .int (g 4), .int (g 5), .int (g 6), .int (g 7), .int (g 8), .int (g 9)])
def cT (g : Nat → Int32) : JC := .inr (5, [.int (g 0), .int (g 1), .int (g 2), .int (g 3), .int (g 4)])
def cS (g : Nat → Int32) : JC := .inr (3, [.int (g 0), .int (g 1), .int (g 2)])
def cG (b : Nat) (g : Nat → Int32) : JC := .inr (2, [.ref (b + 5), .ref (b + 6), .ref (b + 7), .int (g 0)])
def cR (t n q : Nat) : JC := .inl (t, n, .inr (.inr (.inr (.inr fun i => if i < n then some (q + i) else none))))
def cI (n : Nat) (g : Nat → Int32) : JC := .inl (0, n, .inl g)
def layF : Lay := (29, fun b r g => if r = 0 then cF b g else if r = 1 then cR 3 6 (b + 8) else if r = 2 then cR 4 3 (b + 14) else if r = 3 then cR 5 12 (b + 17) else if r = 4 then cG b g else if r < 8 then cI 30 g else if r < 14 then cS g else if r < 17 then cT g else cA g,
  fun r => if r = 0 then (0, 0) else if r < 4 then (90, r) else if r = 4 then (4, 0) else if r < 8 then (r, 0) else if r < 14 then (1, r - 8) else if r < 17 then (2, r - 14) else (3, r - 17))
abbrev fm (b : Nat) (m : Mem) (M : JM) : JM := um layF b m M
theorem layF_inj : ∀ r, r < 29 → ∀ r', r' < 29 → r' ≠ r → ¬ ((layF.2.2 r').1 = (layF.2.2 r).1 ∧ (layF.2.2 r').2 = (layF.2.2 r).2) := by decide +kernel
theorem layF_i {r : Nat} (h : r < 29) : ∀ r', r' < layF.1 → r' ≠ r → ¬ ((layF.2.2 r').1 = (layF.2.2 r).1 ∧ (layF.2.2 r').2 = (layF.2.2 r).2) := fun r' h' => layF_inj r h r' h'
section FMS
variable {b i k : Nat} {m : Mem} {M : JM} {v : Int32}
theorem fm_F : fm b m M b = cF b (m 0 0) := um_rd (L := layF) (b := b) (r := 0) (by decide)
theorem fm_fS : fm b m M (b + 1) = cR 3 6 (b + 8) := um_rd (L := layF) (r := 1) (by decide)
theorem fm_fT : fm b m M (b + 2) = cR 4 3 (b + 14) := um_rd (L := layF) (r := 2) (by decide)
theorem fm_fA : fm b m M (b + 3) = cR 5 12 (b + 17) := um_rd (L := layF) (r := 3) (by decide)
theorem fm_L : fm b m M (b + 4) = cG b (m 4 0) := um_rd (L := layF) (r := 4) (by decide)
theorem fm_L5 : fm b m M (b + 5) = cI 30 (m 5 0) := um_rd (L := layF) (r := 5) (by decide)
theorem fm_L6 : fm b m M (b + 6) = cI 30 (m 6 0) := um_rd (L := layF) (r := 6) (by decide)
theorem fm_L7 : fm b m M (b + 7) = cI 30 (m 7 0) := um_rd (L := layF) (r := 7) (by decide)
theorem layF_S (h : i < 6) (g : Nat → Int32) : layF.2.1 b (8 + i) g = cS g ∧ layF.2.2 (8 + i) = (1, i) := by
  constructor
  · simp only [layF]
    rw [if_neg (by omega), if_neg (by omega), if_neg (by omega), if_neg (by omega), if_neg (by omega), if_neg (by omega), if_pos (by omega)]
  · simp only [layF]
    rw [if_neg (by omega), if_neg (by omega), if_neg (by omega), if_neg (by omega), if_pos (by omega), Nat.add_sub_cancel_left]
theorem layF_T (h : i < 3) (g : Nat → Int32) : layF.2.1 b (14 + i) g = cT g ∧ layF.2.2 (14 + i) = (2, i) := by
  constructor
  · simp only [layF]
    rw [if_neg (by omega), if_neg (by omega), if_neg (by omega), if_neg (by omega), if_neg (by omega), if_neg (by omega), if_neg (by omega), if_pos (by omega)]
  · simp only [layF]
    rw [if_neg (by omega), if_neg (by omega), if_neg (by omega), if_neg (by omega), if_neg (by omega), if_pos (by omega), Nat.add_sub_cancel_left]
theorem layF_A (h : i < 12) (g : Nat → Int32) : layF.2.1 b (17 + i) g = cA g ∧ layF.2.2 (17 + i) = (3, i) := by
  constructor
  · simp only [layF]
    rw [if_neg (by omega), if_neg (by omega), if_neg (by omega), if_neg (by omega), if_neg (by omega), if_neg (by omega), if_neg (by omega), if_neg (by omega)]
  · simp only [layF]
    rw [if_neg (by omega), if_neg (by omega), if_neg (by omega), if_neg (by omega), if_neg (by omega), if_neg (by omega), Nat.add_sub_cancel_left]
theorem fm_S (h : i < 6) : fm b m M (b + 8 + i) = cS (m 1 i) := by
  rw [show b + 8 + i = b + (8 + i) by omega]
  refine (um_rd (L := layF) (show 8 + i < 29 by omega)).trans ?_
  rw [(layF_S h _).1, (layF_S (b := b) h (m 1 i)).2]
theorem fm_T (h : i < 3) : fm b m M (b + 14 + i) = cT (m 2 i) := by
  rw [show b + 14 + i = b + (14 + i) by omega]
  refine (um_rd (L := layF) (show 14 + i < 29 by omega)).trans ?_
  rw [(layF_T h _).1, (layF_T (b := b) h (m 1 i)).2]
theorem fm_A (h : i < 12) : fm b m M (b + 17 + i) = cA (m 3 i) := by
  rw [show b + 17 + i = b + (17 + i) by omega]
  refine (um_rd (L := layF) (show 17 + i < 29 by omega)).trans ?_
  rw [(layF_A h _).1, (layF_A (b := b) h (m 1 i)).2]
theorem fm_wF {C : JC} (hC : C = cF b (upd (m 0 0) k v)) : va_up (fm b m M) b C = fm b (up3 m 0 0 k v) M := um_wr (L := layF) (b := b) (r := 0) (by decide) (layF_i (by decide)) hC
theorem fm_wL {C : JC} (hC : C = cG b (upd (m 4 0) k v)) : va_up (fm b m M) (b + 4) C = fm b (up3 m 4 0 k v) M := um_wr (L := layF) (b := b) (r := 4) (by decide) (layF_i (by decide)) hC
theorem fm_w5 {C : JC} (hC : C = cI 30 (upd (m 5 0) k v)) : va_up (fm b m M) (b + 5) C = fm b (up3 m 5 0 k v) M := um_wr (L := layF) (b := b) (r := 5) (by decide) (layF_i (by decide)) hC
theorem fm_w6 {C : JC} (hC : C = cI 30 (upd (m 6 0) k v)) : va_up (fm b m M) (b + 6) C = fm b (up3 m 6 0 k v) M := um_wr (L := layF) (b := b) (r := 6) (by decide) (layF_i (by decide)) hC
theorem fm_w7 {C : JC} (hC : C = cI 30 (upd (m 7 0) k v)) : va_up (fm b m M) (b + 7) C = fm b (up3 m 7 0 k v) M := um_wr (L := layF) (b := b) (r := 7) (by decide) (layF_i (by decide)) hC
theorem fm_wS {C : JC} (h : i < 6) (hC : C = cS (upd (m 1 i) k v)) : va_up (fm b m M) (b + 8 + i) C = fm b (up3 m 1 i k v) M := by
  have e := (layF_S (b := b) h (m 1 i)).2
  have w := um_wr (L := layF) (b := b) (r := 8 + i) (k := k) (v := v) (m := m) (M := M) (C := C) (show 8 + i < 29 by omega) (layF_i (by omega)) (by rw [e, (layF_S h _).1, hC])
  rw [e] at w
  rw [show b + 8 + i = b + (8 + i) by omega, w]
theorem fm_wT {C : JC} (h : i < 3) (hC : C = cT (upd (m 2 i) k v)) : va_up (fm b m M) (b + 14 + i) C = fm b (up3 m 2 i k v) M := by
  have e := (layF_T (b := b) h (m 1 i)).2
  have w := um_wr (L := layF) (b := b) (r := 14 + i) (k := k) (v := v) (m := m) (M := M) (C := C) (show 14 + i < 29 by omega) (layF_i (by omega)) (by rw [e, (layF_T h _).1, hC])
  rw [e] at w
  rw [show b + 14 + i = b + (14 + i) by omega, w]
theorem fm_wA {C : JC} (h : i < 12) (hC : C = cA (upd (m 3 i) k v)) : va_up (fm b m M) (b + 17 + i) C = fm b (up3 m 3 i k v) M := by
  have e := (layF_A (b := b) h (m 1 i)).2
  have w := um_wr (L := layF) (b := b) (r := 17 + i) (k := k) (v := v) (m := m) (M := M) (C := C) (show 17 + i < 29 by omega) (layF_i (by omega)) (by rw [e, (layF_A h _).1, hC])
  rw [e] at w
  rw [show b + 17 + i = b + (17 + i) by omega, w]
end FMS
