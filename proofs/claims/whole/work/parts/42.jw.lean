/-! rows that the program writes with -/
def bI (b : Bool) : Int32 := if b = true then 1 else 0
theorem bI_t {b : Bool} (h : b = true) : ¬ bI b = 0 := by
  subst h
  decide
theorem bI_f {b : Bool} (h : ¬ b = true) : bI b = 0 := by
  cases b
  · rfl
  · exact absurd rfl h
theorem bI_or (b : Bool) : bI b = 0 ∨ bI b = 1 := by
  cases b
  · exact Or.inl rfl
  · exact Or.inr rfl
def ix (x : Int32) : Nat := x.toInt.toNat
theorem ix_nI {n : Nat} (h : n < 2 ^ 31) : ix (nI n) = n := by
  unfold ix
  rw [nI_toInt h]
  rfl
theorem sw_out {x : Int32} {ts : List Nat} {d : Nat} (h : ∀ i, i < ts.length → ¬ x = nI i ∨ ts.getD i d = d) : (if x < 0 then d else ts.getD x.toNatClampNeg d) = d := by
  by_cases h0 : x < 0
  · exact if_pos h0
  · rw [if_neg h0]
    obtain ⟨j, hj, e⟩ := nI_of h0
    subst e
    rw [nI_clamp hj]
    by_cases g : j < ts.length
    · rcases h j g with q | q
      · exact absurd rfl q
      · exact q
    · rw [List.getD_eq_getElem?_getD, List.getElem?_eq_none (by omega)]
      rfl
def itr {S : Type} (f : Nat → S → S) : Nat → Nat → S → S
  | 0, _, s => s
  | n + 1, j, s => itr f n (j + 1) (f j s)
section JWS
variable {E : JE} {cd : List (Nat × JA)} {pc p2 : Nat} {l : List (Nat × Value)} {st r : List Value} {h h' hf : JH} {o : JO} {n c s : Nat} {M M' : JM}
theorem JV.inv0 {μ k ci q : Nat} {fs : List Value} {as : List Value} {M1 : JM} (hl : jlk cd pc = some (a_inv μ k ci [])) (hst : st.drop k = .ref q :: r) (has : (st.take k).reverse = as) (hM : M q = .inr (ci, fs)) (hr : jcat r ≤ 8) (hp : pc + 3 = p2) (hE : E μ (.ref q :: as) (n, c, s, M) (.inl none) (n, c, s, M1)) (kk : JV E cd (p2, l, r) (n, c, s, M1) o hf) : JV E cd (pc, l, st) (n, c, s, M) o hf := JV.inv hl hst has hM hr hp hE kk
theorem JV.invI {μ k ci q : Nat} {fs : List Value} {as : List Value} {x : Int32} {M1 : JM} (hl : jlk cd pc = some (a_inv μ k ci [])) (hst : st.drop k = .ref q :: r) (has : (st.take k).reverse = as) (hM : M q = .inr (ci, fs)) (hr : jcat r ≤ 8) (hp : pc + 3 = p2) (hE : E μ (.ref q :: as) (n, c, s, M) (.inl (some (.int x))) (n, c, s, M1)) (kk : JV E cd (p2, l, .int x :: r) (n, c, s, M1) o hf) : JV E cd (pc, l, st) (n, c, s, M) o hf := JV.inv hl hst has hM hr hp hE kk
theorem JV.ins0 {μ k : Nat} {as : List Value} {M1 : JM} (hl : jlk cd pc = some (a_ins μ k)) (hk : k ≤ st.length) (has : (st.take k).reverse = as) (hst : st.drop k = r) (hr : jcat r ≤ 8) (hp : pc + 3 = p2) (hE : E μ as (n, c, s, M) (.inl none) (n, c, s, M1)) (hn : n = n) (kk : JV E cd (p2, l, r) (n, c, s, M1) o hf) : JV E cd (pc, l, st) (n, c, s, M) o hf := JV.ins hl hk has hst hr hp hE hn kk
theorem JV.insI {μ k : Nat} {as : List Value} {x : Int32} {M1 : JM} (hl : jlk cd pc = some (a_ins μ k)) (hk : k ≤ st.length) (has : (st.take k).reverse = as) (hst : st.drop k = r) (hr : jcat r ≤ 8) (hp : pc + 3 = p2) (hE : E μ as (n, c, s, M) (.inl (some (.int x))) (n, c, s, M1)) (hn : n = n) (kk : JV E cd (p2, l, .int x :: r) (n, c, s, M1) o hf) : JV E cd (pc, l, st) (n, c, s, M) o hf := JV.ins hl hk has hst hr hp hE hn kk
theorem JV.insL {μ k : Nat} {as : List Value} {x : Int64} {M1 : JM} (hl : jlk cd pc = some (a_ins μ k)) (hk : k ≤ st.length) (has : (st.take k).reverse = as) (hst : st.drop k = r) (hr : jcat r ≤ 8) (hp : pc + 3 = p2) (hE : E μ as (n, c, s, M) (.inl (some (.long x))) (n, c, s, M1)) (hn : n = n) (kk : JV E cd (p2, l, .long x :: r) (n, c, s, M1) o hf) : JV E cd (pc, l, st) (n, c, s, M) o hf := JV.ins hl hk has hst hr hp hE hn kk
end JWS
