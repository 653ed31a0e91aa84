/-! rows that the program writes with -/
def bI (b : Bool) : Int32 := if b = true then 1 else 0
theorem bI_t {b : Bool} (h : b = true) : ¬ bI b = 0 := by
  subst h
  decide
theorem bI_f {b : Bool} (h : ¬ b = true) : bI b = 0 := by
  cases b
  · rfl
  · exact absurd rfl h
theorem bI_or (b : Bool) : bI b = 0 ∨ bI b = 1 := by
  cases b
  · exact Or.inl rfl
  · exact Or.inr rfl
def ix (x : Int32) : Nat := x.toInt.toNat
theorem ix_nI {n : Nat} (h : n < 2 ^ 31) : ix (nI n) = n := by
  unfold ix
  rw [nI_toInt h]
  rfl
theorem sw_out {x : Int32} {ts : List Nat} {d : Nat} (h : ∀ i, i < ts.length → ¬ x = nI i ∨ ts.getD i d = d) : (if x < 0 then d else ts.getD x.toNatClampNeg d) = d := by
  by_cases h0 : x < 0
  · exact if_pos h0
  · rw [if_neg h0]
    obtain ⟨j, hj, e⟩ := nI_of h0
    subst e
    rw [nI_clamp hj]
    by_cases g : j < ts.length
    · rcases h j g with q | q
      · exact absurd rfl q
      · exact q
    · rw [List.getD_eq_getElem?_getD, List.getElem?_eq_none (by omega)]
      rfl
def itr {S : Type} (f : Nat → S → S) : Nat → Nat → S → S
  | 0, _, s => s
  | n + 1, j, s => itr f n (j + 1) (f j s)
section JWS
variable {E : JE} {cd : List (Nat × JA)} {pc p2 : Nat} {l : List (Nat × Value)} {st r : List Value} {h h' hf : JH} {o : JO} {n c s : Nat} {M M' : JM}
theorem JV.inv0 {μ k ci q : Nat} {fs : List Value} {as : List Value} {M1 : JM} (hl : jlk cd pc = some (a_inv μ k ci [])) (hst : st.drop k = .ref q :: r) (has : (st.take k).reverse = as) (hM : M q = .inr (ci, fs)) (hr : jcat r ≤ 8) (hp : pc + 3 = p2) (hE : E μ (.ref q :: as) (n, c, s, M) (.inl none) (n, c, s, M1)) (kk : JV E cd (p2, l, r) (n, c, s, M1) o hf) : JV E cd (pc, l, st) (n, c, s, M) o hf := JV.inv hl hst has hM hr hp hE kk
theorem JV.invI {μ k ci q : Nat} {fs : List Value} {as : List Value} {x : Int32} {M1 : JM} (hl : jlk cd pc = some (a_inv μ k ci [])) (hst : st.drop k = .ref q :: r) (has : (st.take k).reverse = as) (hM : M q = .inr (ci, fs)) (hr : jcat r ≤ 8) (hp : pc + 3 = p2) (hE : E μ (.ref q :: as) (n, c, s, M) (.inl (some (.int x))) (n, c, s, M1)) (kk : JV E cd (p2, l, .int x :: r) (n, c, s, M1) o hf) : JV E cd (pc, l, st) (n, c, s, M) o hf := JV.inv hl hst has hM hr hp hE kk
theorem JV.ins0 {μ k : Nat} {as : List Value} {M1 : JM} (hl : jlk cd pc = some (a_ins μ k)) (hk : k ≤ st.length) (has : (st.take k).reverse = as) (hst : st.drop k = r) (hr : jcat r ≤ 8) (hp : pc + 3 = p2) (hE : E μ as (n, c, s, M) (.inl none) (n, c, s, M1)) (hn : n = n) (kk : JV E cd (p2, l, r) (n, c, s, M1) o hf) : JV E cd (pc, l, st) (n, c, s, M) o hf := JV.ins hl hk has hst hr hp hE hn kk
theorem JV.insI {μ k : Nat} {as : List Value} {x : Int32} {M1 : JM} (hl : jlk cd pc = some (a_ins μ k)) (hk : k ≤ st.length) (has : (st.take k).reverse = as) (hst : st.drop k = r) (hr : jcat r ≤ 8) (hp : pc + 3 = p2) (hE : E μ as (n, c, s, M) (.inl (some (.int x))) (n, c, s, M1)) (hn : n = n) (kk : JV E cd (p2, l, .int x :: r) (n, c, s, M1) o hf) : JV E cd (pc, l, st) (n, c, s, M) o hf := JV.ins hl hk has hst hr hp hE hn kk
theorem JV.insL {μ k : Nat} {as : List Value} {x : Int64} {M1 : JM} (hl : jlk cd pc = some (a_ins μ k)) (hk : k ≤ st.length) (has : (st.take k).reverse = as) (hst : st.drop k = r) (hr : jcat r ≤ 8) (hp : pc + 3 = p2) (hE : E μ as (n, c, s, M) (.inl (some (.long x))) (n, c, s, M1)) (hn : n = n) (kk : JV E cd (p2, l, .long x :: r) (n, c, s, M1) o hf) : JV E cd (pc, l, st) (n, c, s, M) o hf := JV.ins hl hk has hst hr hp hE hn kk
end JWS
section JWP
variable {E : JE} {cd : List (Nat × JA)} {pc p2 b i n c s : Nat} {l : List (Nat × Value)} {r : List Value} {hf : JH} {o : JO} {m : Mem} {M : JM} {x : Int32}
theorem JV.putA0 (hl : jlk cd pc = some (a_puti 0 0)) (hi : i < 12) (hp : pc + 3 = p2) (kk : JV E cd (p2, l, r) (n, c, s, fm b (up3 m 3 i 0 x) M) o hf) : JV E cd (pc, l, .int x :: .ref (b + 17 + i) :: r) (n, c, s, fm b m M) o hf := JV.puti hl (fm_A hi) (Nat.le_of_ble_eq_true rfl) (fm_wA (k := 0) hi rfl) hp kk
theorem JV.getA0 (hl : jlk cd pc = some (a_getf 0 0)) (hi : i < 12) (hp : pc + 3 = p2) (kk : JV E cd (p2, l, .int (m 3 i 0) :: r) (n, c, s, fm b m M) o hf) : JV E cd (pc, l, .ref (b + 17 + i) :: r) (n, c, s, fm b m M) o hf := JV.getf hl (fm_A hi) rfl hp kk
theorem JV.putA1 (hl : jlk cd pc = some (a_puti 0 1)) (hi : i < 12) (hp : pc + 3 = p2) (kk : JV E cd (p2, l, r) (n, c, s, fm b (up3 m 3 i 1 x) M) o hf) : JV E cd (pc, l, .int x :: .ref (b + 17 + i) :: r) (n, c, s, fm b m M) o hf := JV.puti hl (fm_A hi) (Nat.le_of_ble_eq_true rfl) (fm_wA (k := 1) hi rfl) hp kk
theorem JV.getA1 (hl : jlk cd pc = some (a_getf 0 1)) (hi : i < 12) (hp : pc + 3 = p2) (kk : JV E cd (p2, l, .int (m 3 i 1) :: r) (n, c, s, fm b m M) o hf) : JV E cd (pc, l, .ref (b + 17 + i) :: r) (n, c, s, fm b m M) o hf := JV.getf hl (fm_A hi) rfl hp kk
theorem JV.putA2 (hl : jlk cd pc = some (a_puti 0 2)) (hi : i < 12) (hp : pc + 3 = p2) (kk : JV E cd (p2, l, r) (n, c, s, fm b (up3 m 3 i 2 x) M) o hf) : JV E cd (pc, l, .int x :: .ref (b + 17 + i) :: r) (n, c, s, fm b m M) o hf := JV.puti hl (fm_A hi) (Nat.le_of_ble_eq_true rfl) (fm_wA (k := 2) hi rfl) hp kk
theorem JV.getA2 (hl : jlk cd pc = some (a_getf 0 2)) (hi : i < 12) (hp : pc + 3 = p2) (kk : JV E cd (p2, l, .int (m 3 i 2) :: r) (n, c, s, fm b m M) o hf) : JV E cd (pc, l, .ref (b + 17 + i) :: r) (n, c, s, fm b m M) o hf := JV.getf hl (fm_A hi) rfl hp kk
theorem JV.putA3 (hl : jlk cd pc = some (a_puti 0 3)) (hi : i < 12) (hp : pc + 3 = p2) (kk : JV E cd (p2, l, r) (n, c, s, fm b (up3 m 3 i 3 x) M) o hf) : JV E cd (pc, l, .int x :: .ref (b + 17 + i) :: r) (n, c, s, fm b m M) o hf := JV.puti hl (fm_A hi) (Nat.le_of_ble_eq_true rfl) (fm_wA (k := 3) hi rfl) hp kk
theorem JV.getA3 (hl : jlk cd pc = some (a_getf 0 3)) (hi : i < 12) (hp : pc + 3 = p2) (kk : JV E cd (p2, l, .int (m 3 i 3) :: r) (n, c, s, fm b m M) o hf) : JV E cd (pc, l, .ref (b + 17 + i) :: r) (n, c, s, fm b m M) o hf := JV.getf hl (fm_A hi) rfl hp kk
theorem JV.putA4 (hl : jlk cd pc = some (a_puti 0 4)) (hi : i < 12) (hp : pc + 3 = p2) (kk : JV E cd (p2, l, r) (n, c, s, fm b (up3 m 3 i 4 x) M) o hf) : JV E cd (pc, l, .int x :: .ref (b + 17 + i) :: r) (n, c, s, fm b m M) o hf := JV.puti hl (fm_A hi) (Nat.le_of_ble_eq_true rfl) (fm_wA (k := 4) hi rfl) hp kk
theorem JV.getA4 (hl : jlk cd pc = some (a_getf 0 4)) (hi : i < 12) (hp : pc + 3 = p2) (kk : JV E cd (p2, l, .int (m 3 i 4) :: r) (n, c, s, fm b m M) o hf) : JV E cd (pc, l, .ref (b + 17 + i) :: r) (n, c, s, fm b m M) o hf := JV.getf hl (fm_A hi) rfl hp kk
theorem JV.putA5 (hl : jlk cd pc = some (a_puti 0 5)) (hi : i < 12) (hp : pc + 3 = p2) (kk : JV E cd (p2, l, r) (n, c, s, fm b (up3 m 3 i 5 x) M) o hf) : JV E cd (pc, l, .int x :: .ref (b + 17 + i) :: r) (n, c, s, fm b m M) o hf := JV.puti hl (fm_A hi) (Nat.le_of_ble_eq_true rfl) (fm_wA (k := 5) hi rfl) hp kk
theorem JV.getA5 (hl : jlk cd pc = some (a_getf 0 5)) (hi : i < 12) (hp : pc + 3 = p2) (kk : JV E cd (p2, l, .int (m 3 i 5) :: r) (n, c, s, fm b m M) o hf) : JV E cd (pc, l, .ref (b + 17 + i) :: r) (n, c, s, fm b m M) o hf := JV.getf hl (fm_A hi) rfl hp kk
theorem JV.putA6 (hl : jlk cd pc = some (a_puti 0 6)) (hi : i < 12) (hp : pc + 3 = p2) (kk : JV E cd (p2, l, r) (n, c, s, fm b (up3 m 3 i 6 x) M) o hf) : JV E cd (pc, l, .int x :: .ref (b + 17 + i) :: r) (n, c, s, fm b m M) o hf := JV.puti hl (fm_A hi) (Nat.le_of_ble_eq_true rfl) (fm_wA (k := 6) hi rfl) hp kk
theorem JV.getA6 (hl : jlk cd pc = some (a_getf 0 6)) (hi : i < 12) (hp : pc + 3 = p2) (kk : JV E cd (p2, l, .int (m 3 i 6) :: r) (n, c, s, fm b m M) o hf) : JV E cd (pc, l, .ref (b + 17 + i) :: r) (n, c, s, fm b m M) o hf := JV.getf hl (fm_A hi) rfl hp kk
theorem JV.putA7 (hl : jlk cd pc = some (a_puti 0 7)) (hi : i < 12) (hp : pc + 3 = p2) (kk : JV E cd (p2, l, r) (n, c, s, fm b (up3 m 3 i 7 x) M) o hf) : JV E cd (pc, l, .int x :: .ref (b + 17 + i) :: r) (n, c, s, fm b m M) o hf := JV.puti hl (fm_A hi) (Nat.le_of_ble_eq_true rfl) (fm_wA (k := 7) hi rfl) hp kk
theorem JV.getA7 (hl : jlk cd pc = some (a_getf 0 7)) (hi : i < 12) (hp : pc + 3 = p2) (kk : JV E cd (p2, l, .int (m 3 i 7) :: r) (n, c, s, fm b m M) o hf) : JV E cd (pc, l, .ref (b + 17 + i) :: r) (n, c, s, fm b m M) o hf := JV.getf hl (fm_A hi) rfl hp kk
theorem JV.putA8 (hl : jlk cd pc = some (a_puti 0 8)) (hi : i < 12) (hp : pc + 3 = p2) (kk : JV E cd (p2, l, r) (n, c, s, fm b (up3 m 3 i 8 x) M) o hf) : JV E cd (pc, l, .int x :: .ref (b + 17 + i) :: r) (n, c, s, fm b m M) o hf := JV.puti hl (fm_A hi) (Nat.le_of_ble_eq_true rfl) (fm_wA (k := 8) hi rfl) hp kk
theorem JV.getA8 (hl : jlk cd pc = some (a_getf 0 8)) (hi : i < 12) (hp : pc + 3 = p2) (kk : JV E cd (p2, l, .int (m 3 i 8) :: r) (n, c, s, fm b m M) o hf) : JV E cd (pc, l, .ref (b + 17 + i) :: r) (n, c, s, fm b m M) o hf := JV.getf hl (fm_A hi) rfl hp kk
theorem JV.putA9 (hl : jlk cd pc = some (a_puti 0 9)) (hi : i < 12) (hp : pc + 3 = p2) (kk : JV E cd (p2, l, r) (n, c, s, fm b (up3 m 3 i 9 x) M) o hf) : JV E cd (pc, l, .int x :: .ref (b + 17 + i) :: r) (n, c, s, fm b m M) o hf := JV.puti hl (fm_A hi) (Nat.le_of_ble_eq_true rfl) (fm_wA (k := 9) hi rfl) hp kk
theorem JV.getA9 (hl : jlk cd pc = some (a_getf 0 9)) (hi : i < 12) (hp : pc + 3 = p2) (kk : JV E cd (p2, l, .int (m 3 i 9) :: r) (n, c, s, fm b m M) o hf) : JV E cd (pc, l, .ref (b + 17 + i) :: r) (n, c, s, fm b m M) o hf := JV.getf hl (fm_A hi) rfl hp kk
theorem JV.putS0 (hl : jlk cd pc = some (a_puti 3 0)) (hi : i < 6) (hp : pc + 3 = p2) (kk : JV E cd (p2, l, r) (n, c, s, fm b (up3 m 1 i 0 x) M) o hf) : JV E cd (pc, l, .int x :: .ref (b + 8 + i) :: r) (n, c, s, fm b m M) o hf := JV.puti hl (fm_S hi) (Nat.le_of_ble_eq_true rfl) (fm_wS (k := 0) hi rfl) hp kk
theorem JV.getS0 (hl : jlk cd pc = some (a_getf 3 0)) (hi : i < 6) (hp : pc + 3 = p2) (kk : JV E cd (p2, l, .int (m 1 i 0) :: r) (n, c, s, fm b m M) o hf) : JV E cd (pc, l, .ref (b + 8 + i) :: r) (n, c, s, fm b m M) o hf := JV.getf hl (fm_S hi) rfl hp kk
theorem JV.putS1 (hl : jlk cd pc = some (a_puti 3 1)) (hi : i < 6) (hp : pc + 3 = p2) (kk : JV E cd (p2, l, r) (n, c, s, fm b (up3 m 1 i 1 x) M) o hf) : JV E cd (pc, l, .int x :: .ref (b + 8 + i) :: r) (n, c, s, fm b m M) o hf := JV.puti hl (fm_S hi) (Nat.le_of_ble_eq_true rfl) (fm_wS (k := 1) hi rfl) hp kk
theorem JV.getS1 (hl : jlk cd pc = some (a_getf 3 1)) (hi : i < 6) (hp : pc + 3 = p2) (kk : JV E cd (p2, l, .int (m 1 i 1) :: r) (n, c, s, fm b m M) o hf) : JV E cd (pc, l, .ref (b + 8 + i) :: r) (n, c, s, fm b m M) o hf := JV.getf hl (fm_S hi) rfl hp kk
theorem JV.putS2 (hl : jlk cd pc = some (a_puti 3 2)) (hi : i < 6) (hp : pc + 3 = p2) (kk : JV E cd (p2, l, r) (n, c, s, fm b (up3 m 1 i 2 x) M) o hf) : JV E cd (pc, l, .int x :: .ref (b + 8 + i) :: r) (n, c, s, fm b m M) o hf := JV.puti hl (fm_S hi) (Nat.le_of_ble_eq_true rfl) (fm_wS (k := 2) hi rfl) hp kk
theorem JV.getS2 (hl : jlk cd pc = some (a_getf 3 2)) (hi : i < 6) (hp : pc + 3 = p2) (kk : JV E cd (p2, l, .int (m 1 i 2) :: r) (n, c, s, fm b m M) o hf) : JV E cd (pc, l, .ref (b + 8 + i) :: r) (n, c, s, fm b m M) o hf := JV.getf hl (fm_S hi) rfl hp kk
theorem JV.putT0 (hl : jlk cd pc = some (a_puti 5 0)) (hi : i < 3) (hp : pc + 3 = p2) (kk : JV E cd (p2, l, r) (n, c, s, fm b (up3 m 2 i 0 x) M) o hf) : JV E cd (pc, l, .int x :: .ref (b + 14 + i) :: r) (n, c, s, fm b m M) o hf := JV.puti hl (fm_T hi) (Nat.le_of_ble_eq_true rfl) (fm_wT (k := 0) hi rfl) hp kk
theorem JV.getT0 (hl : jlk cd pc = some (a_getf 5 0)) (hi : i < 3) (hp : pc + 3 = p2) (kk : JV E cd (p2, l, .int (m 2 i 0) :: r) (n, c, s, fm b m M) o hf) : JV E cd (pc, l, .ref (b + 14 + i) :: r) (n, c, s, fm b m M) o hf := JV.getf hl (fm_T hi) rfl hp kk
theorem JV.putT1 (hl : jlk cd pc = some (a_puti 5 1)) (hi : i < 3) (hp : pc + 3 = p2) (kk : JV E cd (p2, l, r) (n, c, s, fm b (up3 m 2 i 1 x) M) o hf) : JV E cd (pc, l, .int x :: .ref (b + 14 + i) :: r) (n, c, s, fm b m M) o hf := JV.puti hl (fm_T hi) (Nat.le_of_ble_eq_true rfl) (fm_wT (k := 1) hi rfl) hp kk
theorem JV.getT1 (hl : jlk cd pc = some (a_getf 5 1)) (hi : i < 3) (hp : pc + 3 = p2) (kk : JV E cd (p2, l, .int (m 2 i 1) :: r) (n, c, s, fm b m M) o hf) : JV E cd (pc, l, .ref (b + 14 + i) :: r) (n, c, s, fm b m M) o hf := JV.getf hl (fm_T hi) rfl hp kk
theorem JV.putT2 (hl : jlk cd pc = some (a_puti 5 2)) (hi : i < 3) (hp : pc + 3 = p2) (kk : JV E cd (p2, l, r) (n, c, s, fm b (up3 m 2 i 2 x) M) o hf) : JV E cd (pc, l, .int x :: .ref (b + 14 + i) :: r) (n, c, s, fm b m M) o hf := JV.puti hl (fm_T hi) (Nat.le_of_ble_eq_true rfl) (fm_wT (k := 2) hi rfl) hp kk
theorem JV.getT2 (hl : jlk cd pc = some (a_getf 5 2)) (hi : i < 3) (hp : pc + 3 = p2) (kk : JV E cd (p2, l, .int (m 2 i 2) :: r) (n, c, s, fm b m M) o hf) : JV E cd (pc, l, .ref (b + 14 + i) :: r) (n, c, s, fm b m M) o hf := JV.getf hl (fm_T hi) rfl hp kk
theorem JV.putT3 (hl : jlk cd pc = some (a_puti 5 3)) (hi : i < 3) (hp : pc + 3 = p2) (kk : JV E cd (p2, l, r) (n, c, s, fm b (up3 m 2 i 3 x) M) o hf) : JV E cd (pc, l, .int x :: .ref (b + 14 + i) :: r) (n, c, s, fm b m M) o hf := JV.puti hl (fm_T hi) (Nat.le_of_ble_eq_true rfl) (fm_wT (k := 3) hi rfl) hp kk
theorem JV.getT3 (hl : jlk cd pc = some (a_getf 5 3)) (hi : i < 3) (hp : pc + 3 = p2) (kk : JV E cd (p2, l, .int (m 2 i 3) :: r) (n, c, s, fm b m M) o hf) : JV E cd (pc, l, .ref (b + 14 + i) :: r) (n, c, s, fm b m M) o hf := JV.getf hl (fm_T hi) rfl hp kk
theorem JV.putT4 (hl : jlk cd pc = some (a_puti 5 4)) (hi : i < 3) (hp : pc + 3 = p2) (kk : JV E cd (p2, l, r) (n, c, s, fm b (up3 m 2 i 4 x) M) o hf) : JV E cd (pc, l, .int x :: .ref (b + 14 + i) :: r) (n, c, s, fm b m M) o hf := JV.puti hl (fm_T hi) (Nat.le_of_ble_eq_true rfl) (fm_wT (k := 4) hi rfl) hp kk
theorem JV.getT4 (hl : jlk cd pc = some (a_getf 5 4)) (hi : i < 3) (hp : pc + 3 = p2) (kk : JV E cd (p2, l, .int (m 2 i 4) :: r) (n, c, s, fm b m M) o hf) : JV E cd (pc, l, .ref (b + 14 + i) :: r) (n, c, s, fm b m M) o hf := JV.getf hl (fm_T hi) rfl hp kk
theorem JV.putF0 (hl : jlk cd pc = some (a_puti 1 4)) (hp : pc + 3 = p2) (kk : JV E cd (p2, l, r) (n, c, s, fm b (up3 m 0 0 0 x) M) o hf) : JV E cd (pc, l, .int x :: .ref b :: r) (n, c, s, fm b m M) o hf := JV.puti hl fm_F (Nat.le_of_ble_eq_true rfl) (fm_wF (k := 0) rfl) hp kk
theorem JV.getF0 (hl : jlk cd pc = some (a_getf 1 4)) (hp : pc + 3 = p2) (kk : JV E cd (p2, l, .int (m 0 0 0) :: r) (n, c, s, fm b m M) o hf) : JV E cd (pc, l, .ref b :: r) (n, c, s, fm b m M) o hf := JV.getf hl fm_F rfl hp kk
theorem JV.putF1 (hl : jlk cd pc = some (a_puti 1 5)) (hp : pc + 3 = p2) (kk : JV E cd (p2, l, r) (n, c, s, fm b (up3 m 0 0 1 x) M) o hf) : JV E cd (pc, l, .int x :: .ref b :: r) (n, c, s, fm b m M) o hf := JV.puti hl fm_F (Nat.le_of_ble_eq_true rfl) (fm_wF (k := 1) rfl) hp kk
theorem JV.getF1 (hl : jlk cd pc = some (a_getf 1 5)) (hp : pc + 3 = p2) (kk : JV E cd (p2, l, .int (m 0 0 1) :: r) (n, c, s, fm b m M) o hf) : JV E cd (pc, l, .ref b :: r) (n, c, s, fm b m M) o hf := JV.getf hl fm_F rfl hp kk
theorem JV.putF2 (hl : jlk cd pc = some (a_puti 1 6)) (hp : pc + 3 = p2) (kk : JV E cd (p2, l, r) (n, c, s, fm b (up3 m 0 0 2 x) M) o hf) : JV E cd (pc, l, .int x :: .ref b :: r) (n, c, s, fm b m M) o hf := JV.puti hl fm_F (Nat.le_of_ble_eq_true rfl) (fm_wF (k := 2) rfl) hp kk
theorem JV.getF2 (hl : jlk cd pc = some (a_getf 1 6)) (hp : pc + 3 = p2) (kk : JV E cd (p2, l, .int (m 0 0 2) :: r) (n, c, s, fm b m M) o hf) : JV E cd (pc, l, .ref b :: r) (n, c, s, fm b m M) o hf := JV.getf hl fm_F rfl hp kk
theorem JV.putF3 (hl : jlk cd pc = some (a_puti 1 7)) (hp : pc + 3 = p2) (kk : JV E cd (p2, l, r) (n, c, s, fm b (up3 m 0 0 3 x) M) o hf) : JV E cd (pc, l, .int x :: .ref b :: r) (n, c, s, fm b m M) o hf := JV.puti hl fm_F (Nat.le_of_ble_eq_true rfl) (fm_wF (k := 3) rfl) hp kk
theorem JV.getF3 (hl : jlk cd pc = some (a_getf 1 7)) (hp : pc + 3 = p2) (kk : JV E cd (p2, l, .int (m 0 0 3) :: r) (n, c, s, fm b m M) o hf) : JV E cd (pc, l, .ref b :: r) (n, c, s, fm b m M) o hf := JV.getf hl fm_F rfl hp kk
theorem JV.putF4 (hl : jlk cd pc = some (a_puti 1 8)) (hp : pc + 3 = p2) (kk : JV E cd (p2, l, r) (n, c, s, fm b (up3 m 0 0 4 x) M) o hf) : JV E cd (pc, l, .int x :: .ref b :: r) (n, c, s, fm b m M) o hf := JV.puti hl fm_F (Nat.le_of_ble_eq_true rfl) (fm_wF (k := 4) rfl) hp kk
theorem JV.getF4 (hl : jlk cd pc = some (a_getf 1 8)) (hp : pc + 3 = p2) (kk : JV E cd (p2, l, .int (m 0 0 4) :: r) (n, c, s, fm b m M) o hf) : JV E cd (pc, l, .ref b :: r) (n, c, s, fm b m M) o hf := JV.getf hl fm_F rfl hp kk
theorem JV.putF5 (hl : jlk cd pc = some (a_puti 1 9)) (hp : pc + 3 = p2) (kk : JV E cd (p2, l, r) (n, c, s, fm b (up3 m 0 0 5 x) M) o hf) : JV E cd (pc, l, .int x :: .ref b :: r) (n, c, s, fm b m M) o hf := JV.puti hl fm_F (Nat.le_of_ble_eq_true rfl) (fm_wF (k := 5) rfl) hp kk
theorem JV.getF5 (hl : jlk cd pc = some (a_getf 1 9)) (hp : pc + 3 = p2) (kk : JV E cd (p2, l, .int (m 0 0 5) :: r) (n, c, s, fm b m M) o hf) : JV E cd (pc, l, .ref b :: r) (n, c, s, fm b m M) o hf := JV.getf hl fm_F rfl hp kk
theorem JV.getFr0 (hl : jlk cd pc = some (a_getf 1 0)) (hp : pc + 3 = p2) (kk : JV E cd (p2, l, .ref (b + 1) :: r) (n, c, s, fm b m M) o hf) : JV E cd (pc, l, .ref b :: r) (n, c, s, fm b m M) o hf := JV.getf hl fm_F rfl hp kk
theorem JV.getFr1 (hl : jlk cd pc = some (a_getf 1 1)) (hp : pc + 3 = p2) (kk : JV E cd (p2, l, .ref (b + 2) :: r) (n, c, s, fm b m M) o hf) : JV E cd (pc, l, .ref b :: r) (n, c, s, fm b m M) o hf := JV.getf hl fm_F rfl hp kk
theorem JV.getFr2 (hl : jlk cd pc = some (a_getf 1 2)) (hp : pc + 3 = p2) (kk : JV E cd (p2, l, .ref (b + 3) :: r) (n, c, s, fm b m M) o hf) : JV E cd (pc, l, .ref b :: r) (n, c, s, fm b m M) o hf := JV.getf hl fm_F rfl hp kk
theorem JV.getFr3 (hl : jlk cd pc = some (a_getf 1 3)) (hp : pc + 3 = p2) (kk : JV E cd (p2, l, .ref (b + 4) :: r) (n, c, s, fm b m M) o hf) : JV E cd (pc, l, .ref b :: r) (n, c, s, fm b m M) o hf := JV.getf hl fm_F rfl hp kk
theorem JV.putL0 (hl : jlk cd pc = some (a_puti 2 3)) (hp : pc + 3 = p2) (kk : JV E cd (p2, l, r) (n, c, s, fm b (up3 m 4 0 0 x) M) o hf) : JV E cd (pc, l, .int x :: .ref (b + 4) :: r) (n, c, s, fm b m M) o hf := JV.puti hl fm_L (Nat.le_of_ble_eq_true rfl) (fm_wL (k := 0) rfl) hp kk
theorem JV.getL0 (hl : jlk cd pc = some (a_getf 2 3)) (hp : pc + 3 = p2) (kk : JV E cd (p2, l, .int (m 4 0 0) :: r) (n, c, s, fm b m M) o hf) : JV E cd (pc, l, .ref (b + 4) :: r) (n, c, s, fm b m M) o hf := JV.getf hl fm_L rfl hp kk
theorem JV.getLr0 (hl : jlk cd pc = some (a_getf 2 0)) (hp : pc + 3 = p2) (kk : JV E cd (p2, l, .ref (b + 5) :: r) (n, c, s, fm b m M) o hf) : JV E cd (pc, l, .ref (b + 4) :: r) (n, c, s, fm b m M) o hf := JV.getf hl fm_L rfl hp kk
theorem JV.getLr1 (hl : jlk cd pc = some (a_getf 2 1)) (hp : pc + 3 = p2) (kk : JV E cd (p2, l, .ref (b + 6) :: r) (n, c, s, fm b m M) o hf) : JV E cd (pc, l, .ref (b + 4) :: r) (n, c, s, fm b m M) o hf := JV.getf hl fm_L rfl hp kk
theorem JV.getLr2 (hl : jlk cd pc = some (a_getf 2 2)) (hp : pc + 3 = p2) (kk : JV E cd (p2, l, .ref (b + 7) :: r) (n, c, s, fm b m M) o hf) : JV E cd (pc, l, .ref (b + 4) :: r) (n, c, s, fm b m M) o hf := JV.getf hl fm_L rfl hp kk
theorem JV.elS (hl : jlk cd pc = some (a_aald 3)) (hx : x = nI i) (hi : i < 6) (hp : pc + 1 = p2) (kk : JV E cd (p2, l, .ref (b + 8 + i) :: r) (n, c, s, fm b m M) o hf) : JV E cd (pc, l, .int x :: .ref (b + 1) :: r) (n, c, s, fm b m M) o hf := JV.aald hl fm_fS hx hi (by decide) (if_pos hi) hp kk
theorem JV.elT (hl : jlk cd pc = some (a_aald 4)) (hx : x = nI i) (hi : i < 3) (hp : pc + 1 = p2) (kk : JV E cd (p2, l, .ref (b + 14 + i) :: r) (n, c, s, fm b m M) o hf) : JV E cd (pc, l, .int x :: .ref (b + 2) :: r) (n, c, s, fm b m M) o hf := JV.aald hl fm_fT hx hi (by decide) (if_pos hi) hp kk
theorem JV.elA (hl : jlk cd pc = some (a_aald 5)) (hx : x = nI i) (hi : i < 12) (hp : pc + 1 = p2) (kk : JV E cd (p2, l, .ref (b + 17 + i) :: r) (n, c, s, fm b m M) o hf) : JV E cd (pc, l, .int x :: .ref (b + 3) :: r) (n, c, s, fm b m M) o hf := JV.aald hl fm_fA hx hi (by decide) (if_pos hi) hp kk
end JWP
