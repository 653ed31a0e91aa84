/-! more that the law needs: minutes of coming, equal fields, who is gone at last -/
section MOR
variable {m m' n n' s : Mem} {S T S' T' : Sys} {μ ν : Mem} {w v d c a b p1 p2 : Int32} {B B' P j p q k t i K N f r : Nat}
theorem cm_rc : x_X1_receive m 3 p 2 = m 3 p 2 := by
  rw [x_X1_receive_eq]
  unfold y_X1_receive
  rw [lf_X1_receive_2_eq]
  unfold ly_X1_receive_2
  refine itr_inv (n := ix (m 0 0 2)) (s := m) (P := fun _ (s : Mem) => s 3 p 2 = m 3 p 2) (fun jz s => bd_X1_receive_2 jz s) (fun j s hj g => ?_) rfl
  show bd_X1_receive_2 j s 3 p 2 = m 3 p 2
  unfold bd_X1_receive_2
  split
  · split
    · exact g
    · split
      · rw [put_f (by decide), bu_k (by decide), up3_ne (by omega)]
        exact g
      · rw [put_f (by decide), up3_ne (by omega), up3_ne (by omega), up3_ne (by omega)]
        exact g
  · exact g
theorem cm_tow : x_X1_tow m 3 p 2 = m 3 p 2 := by
  rw [x_X1_tow_eq]
  unfold y_X1_tow
  rw [lf_X1_tow_2_eq]
  unfold ly_X1_tow_2
  refine itr_inv (n := ix (m 0 0 2)) (s := m) (P := fun _ (s : Mem) => s 3 p 2 = m 3 p 2) (fun jz s => bd_X1_tow_2 jz s) (fun j s hj g => ?_) rfl
  show bd_X1_tow_2 j s 3 p 2 = m 3 p 2
  unfold bd_X1_tow_2
  split
  · split
    · split
      · exact g
      · split
        · exact g
        · rw [put_f (by decide), up3_fam (by decide), tk_f (by decide), up3_ne (by omega), up3_ne (by omega), up3_ne (by omega)]
          exact g
    · exact g
  · exact g
theorem cm_bp : x_X1_beginPush m q 3 p 2 = m 3 p 2 := by
  rw [x_X1_beginPush_eq]
  unfold y_X1_beginPush
  split
  · rfl
  · split
    · rw [put_f (by decide), up3_fam (by decide), tk_f (by decide), up3_ne (by omega), up3_ne (by omega), bu_k (by decide)]
    · rw [put_f (by decide), up3_fam (by decide), tk_f (by decide), up3_ne (by omega), up3_ne (by omega)]
theorem cm_pb : x_X1_pushBack m 3 p 2 = m 3 p 2 := by
  rw [x_X1_pushBack_eq]
  unfold y_X1_pushBack
  rw [lf_X1_pushBack_4_eq]
  unfold ly_X1_pushBack_4
  refine itr_inv (n := ix (m 0 0 2)) (s := (m, (-1 : Int32))) (P := fun _ (s : Mem × Int32) => s.1 3 p 2 = m 3 p 2) (fun jz s => bd_X1_pushBack_4 jz s.1 s.2) (fun j s hj g => ?_) rfl
  show (bd_X1_pushBack_4 j s.1 s.2).1 3 p 2 = m 3 p 2
  unfold bd_X1_pushBack_4
  split
  · exact g
  · split
    · show x_X1_beginPush _ _ 3 p 2 = _
      rw [cm_bp]
      exact g
    · exact g
theorem cm_wt : x_X1_workTugs m 3 p 2 = m 3 p 2 := by
  rw [x_X1_workTugs_eq]
  unfold y_X1_workTugs
  rw [lf_X1_workTugs_2_eq]
  unfold ly_X1_workTugs_2
  refine itr_inv (n := ix (m 0 0 1)) (s := m) (P := fun _ (s : Mem) => s 3 p 2 = m 3 p 2) (fun jz s => bd_X1_workTugs_2 jz s) (fun j s hj g => ?_) rfl
  show bd_X1_workTugs_2 j s 3 p 2 = m 3 p 2
  unfold bd_X1_workTugs_2
  split
  · exact g
  · split
    · rw [up3_fam (f := 2) (f' := 3) (m := x_X1_finish _ _) (by decide), fin_form.2.1 p 2 (by decide) (by decide), up3_ne (by omega)]
      exact g
    · rw [up3_ne (by omega)]
      exact g
theorem cm_m1 : M1 m 3 p 2 = m 3 p 2 := by
  unfold M1
  rw [up3_ne (by omega), cm_at (by omega) (by omega), cm_tow, cm_pb, cm_rc, cm_wt]
theorem cm_mk : ∀ k, MK1 k m 3 p 2 = m 3 p 2
  | 0 => rfl
  | k + 1 => by rw [mk1_s, cm_m1, cm_mk k]
/-- aircraft come early -/
def CE (m : Mem) : Prop := ∀ p, p < ix (m 0 0 2) → VN 119 (m 3 p 2)
theorem GX.eq {x y : Mem} (g : GX x) (hI : IN x) (e : EQ x y) : GX y := by
  have e0 := e.1 0 (by decide)
  have e1 := e.1 1 (by decide)
  have e2 := e.1 2 (by decide)
  have na := hI.na.2
  obtain ⟨⟨gS, gN, gD, gT, gU⟩, gM, gd⟩ := g
  have pf : ∀ a, a < ix (x 0 0 0) → PF y a → PF x a := fun a ha z => by
    unfold PF at z ⊢
    rw [e.2.1 a 1 ha (by decide)] at z
    obtain ⟨p, hp, ep⟩ := (hI.st ha).resolve_left z.1
    rw [ep, ix_nI (by omega)] at z ⊢
    rw [e.2.2.2.1 p 5 hp (by decide)] at z
    exact z
  refine ⟨?_, ?_, gd.eq e⟩
  · unfold GS
    rw [e0, e1, e2]
    refine ⟨fun j p hj hp hh z => ?_, fun j hj z => gN j hj ⟨pf j (by omega) z.1, pf (j + 1) hj z.2⟩, fun p hp => ?_, fun t ht => ?_, fun t t' ht ht' z z2 => ?_⟩
    · rw [e.2.2.2.1 p 5 hp (by decide)] at hh
      rw [e.2.2.2.1 p 6 hp (by decide)] at z
      rw [e.2.1 j 0 hj (by decide), e.2.2.2.1 p 0 hp (by decide)]
      exact gS j p hj hp hh z
    · rw [e.2.2.2.1 p 5 hp (by decide), e.2.2.2.1 p 7 hp (by decide)]
      exact gD p hp
    · rw [e.2.2.1 t 1 ht (by decide), e.2.2.1 t 2 ht (by decide), e.2.2.1 t 0 ht (by decide)]
      refine ⟨(gT t ht).1, fun p hp z => ?_⟩
      rw [e.2.2.2.1 p 5 hp (by decide), e.2.2.2.1 p 1 hp (by decide)]
      exact (gT t ht).2 p hp z
    · rw [e.2.2.1 t 1 ht (by decide)] at z z2
      rw [e.2.2.1 t' 1 ht' (by decide)] at z
      exact gU t t' ht ht' z z2
  · unfold SM
    rw [e0, e2, isum_cg (g := fun p => x 3 p 8) _ (fun p hp => e.2.2.2.1 p 8 hp (by decide)), isum_cg (f := fun j => y 1 j 2) (g := fun j => x 1 j 2) _ (fun j hj => e.2.1 j 2 hj (by decide))]
    exact gM
/-- the first object alone has gone on, and stands where it stood -/
theorem LI.to (h : LI B S T) (hb : B ≤ B') (hS : ∃ μ, INV B' S' μ) (e : EQ (S 1) (S' 1)) : LI B' S' T := by
  have i1 := h.i1
  obtain ⟨-, ⟨ν, y⟩, g, g', t⟩ := h
  obtain ⟨μ, x⟩ := hS
  exact ⟨⟨μ, x⟩, ⟨ν, y.mono hb x.2.1⟩, g.eq i1 e, g', t.eq e EQ.rf⟩
/-- if all would be gone in so few minutes, they are gone then -/
theorem LI.gone (h : LI B S T) (hP : P ≤ 3000) (ht : ix (S 1 0 0 3) + 3000 ≤ 13000) (h0 : ¬ (x_X6_minutesToAll S).2 < 0) (h1 : ¬ nI P < (x_X6_minutesToAll S).2) : cnt (MK1 P (S 1)) 5 (ix (S 1 0 0 2)) = ix (S 1 0 0 2) := by
  have bd := h.bd
  have tr := h.trial
  have qq := h.qq
  obtain ⟨i, hi, e, -, -⟩ := mins_c tr.1.1 (by omega) (by omega)
  rw [mins_of.2.1, e] at h0 h1
  dsimp only at h0 h1
  by_cases g : x_X1_areAllGone (MK1 i (x_X1_copyFrom (S 2) (S 1))) = true
  · rw [if_pos g] at h1
    have le : i ≤ P := Nat.le_of_not_lt (fun z => h1 (nI_lt z (by omega)))
    have Q2 : QQ B (S 1) (x_X1_copyFrom (T 2) (T 1)) := ⟨qq.1, tr.1.2.1, qq.2.2.1, tr.1.2.2.2.1, qq.2.2.2.2.eq EQ.rf EQ.copy⟩
    have a := gone_tw (tr.1.mk i (by omega) (by omega)).1.2.2.2.2
    have b := gone_tw (Q2.mk i (by omega) (by omega)).1.2.2.2.2
    have mk := Q2.mk i (by omega) (by omega)
    have ga : x_X1_areAllGone (MK1 i (S 1)) = true := by rw [← b, a]; exact g
    have n2 := mk_na (k := i) qq.1 (by omega) (by omega) 2 (by decide)
    have all := (gone_iff mk.1.1.iN).mp ga
    refine (cnt_all _).mpr (fun p hp => ?_)
    rw [show P = i + (P - i) by omega, mk1_add]
    exact go_mk mk.1 (by rw [n2]; exact hp) (all p (by rw [n2]; exact hp)) (P - i) (by omega) (by rw [mk.2]; omega)
  · rw [if_neg g] at h0
    exact absurd (show (-1 : Int32) < 0 by decide) h0
/-! small sums of the script's numbers -/
theorem tu_trn (h : v = -1 ∨ ∃ j, j < 4 ∧ v = nI j) : (if v < 0 then v else 3 - v) = tu v := by
  rcases h with e | ⟨j, hj, e⟩
  · rw [e]
    rfl
  · rw [e, tu_j hj, if_neg (nI_pos (by omega))]
    exact pk_sub (a := 3) (by omega)
theorem IN.s6 (hI : IN m) (hp : p < ix (m 0 0 2)) : m 3 p 6 = -1 ∨ ∃ j, j < ix (m 0 0 0) ∧ m 3 p 6 = nI j := (hI.2.1.1 p hp).elim (fun e => Or.inl e.2) (fun e => Or.inr e.2)
theorem sw_t {ts : List Nat} {d : Nat} (h : r < 2 ^ 31) : (if nI r < 0 then d else ts.getD (nI r).toNatClampNeg d) = ts.getD r d := by
  rw [if_neg (nI_pos h), nI_clamp h]
theorem kind_ok (ha : N < 4) (hb : K < 3) : x_X6_isKind (11 + 10 * nI N + nI K) = true := by
  have e : (11 : Int32) + 10 * nI N + nI K = nI (11 + 10 * N + K) := by
    rw [show (10 : Int32) = nI 10 from rfl, pk_mul, show (11 : Int32) = nI 11 from rfl, nI_add, nI_add]
  rw [e, x_X6_isKind_eq]
  unfold y_X6_isKind
  have r : nI (11 + 10 * N + K) - nI (11 + 10 * N + K) / 10 * 10 = nI (1 + K) := by
    have := pk_rem (a := 11 + 10 * N + K) (d := 10) (by omega) (by decide) (by decide)
    rw [show (11 + 10 * N + K) % 10 = 1 + K by omega] at this
    exact this
  have o : ∀ x a b : Nat, a ≤ x → x ≤ b → b < 100 → ¬ x_X6_isOutside (nI x) (nI a) (nI b) = true := fun x a b h1 h2 h3 => by
    rw [x_X6_isOutside_eq]
    unfold y_X6_isOutside
    rw [if_neg (nI_nlt h1 (by omega)), if_neg (nI_nlt h2 (by omega))]
    exact fun z => Bool.noConfusion z
  rw [r, if_neg (show ¬ x_X6_isOutside (nI (11 + 10 * N + K)) 11 43 = true from o _ 11 43 (by omega) (by omega) (by decide)), if_neg (show ¬ x_X6_isOutside (nI (1 + K)) 1 3 = true from o _ 1 3 (by omega) (by omega) (by decide))]
theorem span_eq (hk : k < 4) (ht : t < 4) : (1 : Int32) + ((nI k * 3 + nI t) - (nI k * 3 + nI t) / 4 * 4) = nI (1 + (k * 3 + t) % 4) := by
  rw [show (3 : Int32) = nI 3 from rfl, pk_mul, nI_add]
  have := pk_rem (a := k * 3 + t) (d := 4) (by omega) (by decide) (by decide)
  rw [show (4 : Int32) = nI 4 from rfl, this, show (1 : Int32) = nI 1 from rfl, nI_add]
theorem str_eq (hk : k < 3) (ht : t < 4) : (1 : Int32) + ((nI k + nI t) - (nI k + nI t) / 3 * 3) = nI (1 + (k + t) % 3) := by
  rw [nI_add]
  have := pk_rem (a := k + t) (d := 3) (by omega) (by decide) (by decide)
  rw [show (3 : Int32) = nI 3 from rfl, this, show (1 : Int32) = nI 1 from rfl, nI_add]
theorem in_lo {M : Nat} (h1 : 1 ≤ k) (h2 : k ≤ M) (hc : c = nI M) (hM : M < 2 ^ 31) : ¬ x_X6_isOutside (nI k) 1 c = true := by
  rw [x_X6_isOutside_eq]
  unfold y_X6_isOutside
  rw [hc, if_neg (show ¬ nI k < 1 from nI_nlt (b := 1) h1 (by omega)), if_neg (nI_nlt h2 hM)]
  exact fun z => Bool.noConfusion z
end MOR
