/-! what a call of the class does, told beside the reference picture; two objects in one memory -/
def jS (r : Int32 ⊕ String) (S S' : Sys) : Sys := match r with
  | .inl _ => S'
  | .inr _ => S
def ct_L_begin : List (String × Int32) := [("java/lang/IllegalArgumentException", 1)]
def ct_L_setSpan : List (String × Int32) := [("java/lang/IndexOutOfBoundsException", 1), ("java/lang/IllegalArgumentException", 2)]
def ct_L_setStrength : List (String × Int32) := [("java/lang/IndexOutOfBoundsException", 1), ("java/lang/IllegalArgumentException", 2)]
def ct_L_setCurfew : List (String × Int32) := [("java/lang/IllegalArgumentException", 1)]
def ct_L_expect : List (String × Int32) := [("java/lang/IllegalArgumentException", 1), ("java/lang/IllegalStateException", 2)]
def ct_L_setLeaves : List (String × Int32) := [("java/lang/IndexOutOfBoundsException", 1), ("java/lang/IllegalArgumentException", 2), ("java/lang/IllegalStateException", 3)]
def ct_L_pass : List (String × Int32) := [("java/lang/IllegalArgumentException", 1), ("java/lang/IllegalStateException", 2)]
def ct_L_aircraft : List (String × Int32) := [("java/lang/IndexOutOfBoundsException", 1), ("java/lang/IllegalArgumentException", 2)]
def ct_L_stand : List (String × Int32) := [("java/lang/IndexOutOfBoundsException", 1), ("java/lang/IllegalArgumentException", 2)]
def ct_L_tug : List (String × Int32) := [("java/lang/IndexOutOfBoundsException", 1), ("java/lang/IllegalArgumentException", 2)]
def ct_L_value : List (String × Int32) := [("java/lang/IllegalArgumentException", 1)]
def ct_L_event : List (String × Int32) := [("java/lang/IndexOutOfBoundsException", 1), ("java/lang/IllegalArgumentException", 2)]
def ct_L_why : List (String × Int32) := [("java/lang/IndexOutOfBoundsException", 1)]
def ct_L_delayOf : List (String × Int32) := [("java/lang/IndexOutOfBoundsException", 1)]
def ct_L_delaysWithTug : List (String × Int32) := [("java/lang/IllegalArgumentException", 1)]
def ct_L_append : List (String × Int32) := [("java/lang/IllegalArgumentException", 1), ("java/lang/IllegalStateException", 2)]
def ct_L_undo : List (String × Int32) := [("java/lang/IllegalStateException", 1)]
def AG (ct : List (String × Int32)) (r : Int32 ⊕ String) (q : Mem × Int32) : Prop := (∃ v, r = .inl v ∧ q.1 0 0 1 = 0 ∧ q.2 = v) ∨ ∃ E, r = .inr E ∧ (E, q.1 0 0 1) ∈ ct ∧ ¬ q.1 0 0 1 = 0
def GD (B : Nat) (S : Sys) (μ : Mem) : Prop := (SK B S ∧ B + 117000 < 2147483648) ∧ (MK μ ∧ VN 4 (μ 0 0 0) ∧ VN 90 (μ 0 0 2)) ∧ (VN 13000 (S 1 0 0 3) ∧ ¬ S 1 0 0 0 = 0) ∧ (∀ j, j < 6 → VN 13000 (μ 1 0 (8 + 2 * j + 1))) ∧ VN 13000 (μ 1 0 3) ∧ ¬ μ 1 0 0 = 0
theorem AG.k {ct : List (String × Int32)} {r : Int32 ⊕ String} {q : Mem × Int32} (h : AG ct r q) : (∃ v, r = .inl v ∧ q.1 0 0 1 = 0) ∨ ∃ E, r = .inr E ∧ (E, q.1 0 0 1) ∈ ct := h.elim (fun ⟨v, h1, h2, _⟩ => Or.inl ⟨v, h1, h2⟩) (fun ⟨E, h1, h2, _⟩ => Or.inr ⟨E, h1, h2⟩)
theorem th_eq {m : Mem} : x_X7_thrown m = m 0 0 1 := by
  rw [x_X7_thrown_eq]
  rfl
section JVD2
variable {E : JE} {cd : List (Nat × JA)} {pc p2 n c s : Nat} {l : List (Nat × Value)} {st r : List Value} {hf : JH} {o : JO} {M M1 : JM}
theorem JV.invD {μ k ci q : Nat} {fs : List Value} {as : List Value} {x : UInt64} (hl : jlk cd pc = some (a_inv μ k ci [])) (hst : st.drop k = .ref q :: r) (has : (st.take k).reverse = as) (hM : M q = .inr (ci, fs)) (hr : jcat r ≤ 8) (hp : pc + 3 = p2) (hE : E μ (.ref q :: as) (n, c, s, M) (.inl (some (.double x))) (n, c, s, M1)) (kk : JV E cd (p2, l, .double x :: r) (n, c, s, M1) o hf) : JV E cd (pc, l, st) (n, c, s, M) o hf := JV.inv hl hst has hM hr hp hE kk
end JVD2
section SYA
variable {S : Sys} {M M' : JM} {bb q : Nat}
/-- inside an object nothing of the rest is seen -/
theorem sy_any (h1 : bb < q) (h2 : q < bb + 183) : sy bb S M q = sy bb S M' q := by
  rcases sy_cases (bb := bb) q with h | h | h | h | h | h | h | h | h | h
  · omega
  · rw [sy_atX h, sy_atX h]
  · rw [sy_at1 h, sy_at1 h]
  · rw [sy_at2 h, sy_at2 h]
  · rw [sy_atQ h, sy_atQ h]
  · rw [sy_at3 h, sy_at3 h]
  · rw [sy_at4 h, sy_at4 h]
  · rw [sy_at5 h, sy_at5 h]
  · rw [sy_at6 h, sy_at6 h]
  · rw [sy_at7 h, sy_at7 h]
end SYA
section TWO
variable {S T : Sys} {N : JM} {a b : Nat}
theorem sy_sy (h : a + 182 ≤ b) : sy a S (sy b T N) = sy b T (sy a S N) := by
  funext q
  rcases Nat.lt_or_ge b q with g | g
  · rcases Nat.lt_or_ge q (b + 183) with g2 | g2
    · rw [sy_out (S := S) (bb := a) (M := sy b T N) (show q < a + 1 ∨ a + 183 ≤ q by omega)]
      exact sy_any g g2
    · rw [sy_out (S := S) (bb := a) (M := sy b T N) (show q < a + 1 ∨ a + 183 ≤ q by omega), sy_out (S := T) (bb := b) (M := N) (show q < b + 1 ∨ b + 183 ≤ q by omega), sy_out (S := T) (bb := b) (M := sy a S N) (show q < b + 1 ∨ b + 183 ≤ q by omega), sy_out (S := S) (bb := a) (M := N) (show q < a + 1 ∨ a + 183 ≤ q by omega)]
  · rw [sy_out (S := T) (bb := b) (M := sy a S N) (show q < b + 1 ∨ b + 183 ≤ q by omega)]
    rcases Nat.lt_or_ge a q with g2 | g2
    · rcases Nat.lt_or_ge q (a + 183) with g3 | g3
      · exact sy_any g2 g3
      · rw [sy_out (S := S) (bb := a) (M := sy b T N) (show q < a + 1 ∨ a + 183 ≤ q by omega), sy_out (S := T) (bb := b) (M := N) (show q < b + 1 ∨ b + 183 ≤ q by omega), sy_out (S := S) (bb := a) (M := N) (show q < a + 1 ∨ a + 183 ≤ q by omega)]
    · rw [sy_out (S := S) (bb := a) (M := sy b T N) (show q < a + 1 ∨ a + 183 ≤ q by omega), sy_out (S := T) (bb := b) (M := N) (show q < b + 1 ∨ b + 183 ≤ q by omega), sy_out (S := S) (bb := a) (M := N) (show q < a + 1 ∨ a + 183 ≤ q by omega)]
end TWO
