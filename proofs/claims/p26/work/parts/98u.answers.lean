/-! what the calls answer -/
section ANS
variable {m m' n n' s : Mem} {S T S' T' : Sys} {μ ν : Mem} {w v d c a b p1 p2 : Int32} {B B' P j p q k t i K N f : Nat}
theorem sd_tw (h : TWN m m') : x_X1_sumOfDelays m' = x_X1_sumOfDelays m := by
  rw [x_X1_sumOfDelays_eq]
  unfold y_X1_sumOfDelays
  rw [lf_X1_sumOfDelays_4_eq]
  unfold ly_X1_sumOfDelays_4
  rw [h.c (z := 2) (by decide)]
  exact itr_cg (fun j c hj => by
    show bd_X1_sumOfDelays_4 m' j c = bd_X1_sumOfDelays_4 m j c
    unfold bd_X1_sumOfDelays_4
    rw [h.a hj (by decide) (by decide)])
theorem gd_tw (h : TWN m m') : x_X1_greatestDelay m' = x_X1_greatestDelay m := by
  rw [x_X1_greatestDelay_eq]
  unfold y_X1_greatestDelay
  rw [lf_X1_greatestDelay_4_eq]
  unfold ly_X1_greatestDelay_4
  rw [h.c (z := 2) (by decide)]
  exact itr_cg (fun j c hj => by
    show bd_X1_greatestDelay_4 m' j c = bd_X1_greatestDelay_4 m j c
    unfold bd_X1_greatestDelay_4
    rw [h.a hj (by decide) (by decide)])
theorem sb_tw (h : TWN m m') : x_X1_sumOfBuses m' = x_X1_sumOfBuses m := by
  rw [x_X1_sumOfBuses_eq]
  unfold y_X1_sumOfBuses
  rw [lf_X1_sumOfBuses_4_eq]
  unfold ly_X1_sumOfBuses_4
  rw [h.c (z := 2) (by decide)]
  exact itr_cg (fun j c hj => by
    show bd_X1_sumOfBuses_4 m' j c = bd_X1_sumOfBuses_4 m j c
    unfold bd_X1_sumOfBuses_4
    rw [h.a hj (by decide) (by decide)])
theorem an_tw (h : TWN m m') : x_X1_answer m' w = x_X1_answer m w := by
  rw [x_X1_answer_eq]
  unfold y_X1_answer
  rw [h.c (z := 0) (by decide), h.c (z := 1) (by decide), h.c (z := 2) (by decide), h.c (z := 3) (by decide), h.c (z := 4) (by decide), h.c (z := 5) (by decide), sd_tw h, gd_tw h, sb_tw h, co_tw h, x_X2_kept_eq]
  unfold y_X2_kept
  rw [h.l]
theorem out_k {M : Nat} (hv : v = nI k) (hc : c = nI M) (hk : k ≤ M) (hM : M < 2 ^ 31) : ¬ x_X6_isOutside v 0 c = true := by
  rw [x_X6_isOutside_eq]
  unfold y_X6_isOutside
  rw [hv, hc, if_neg (nI_pos (by omega)), if_neg (nI_nlt hk hM)]
  exact fun z => Bool.noConfusion z
theorem vl_of (hk : k < 16) (hv : v = nI k) : x_X6_value S v = .inl (x_X1_answer (S 1) (nI k)) := by
  rw [x_X6_value_eq]
  unfold y_X6_value
  rw [if_neg (out_k (c := 15) (M := 15) hv rfl (by omega) (by decide)), hv]
theorem LI.vl (h : LI B S T) (hk : k < 16) (hv : v = nI k) : x_X6_value T v = .inl (x_X1_answer (S 1) (nI k)) := by
  rw [vl_of hk hv, an_tw h.2.2.2.2]
theorem ac_of (hI : IN (S 1)) (hq : q < ix (S 1 0 0 2)) (hk : k < 10) (hw : w = nI q) (hv : v = nI k) : x_X6_aircraft S w v = .inl (S 1 3 q k) := by
  have b := hI.na.2
  subst hw
  subst hv
  rw [x_X6_aircraft_eq]
  unfold y_X6_aircraft
  rw [if_pos (has_A' hI hq), if_neg (out_k (c := 9) (M := 9) rfl rfl (by omega) (by decide)), ix_nI (by omega), an_A hk]
theorem LI.na (h : LI B S T) : T 1 0 0 2 = S 1 0 0 2 := h.2.2.2.2.c (by decide)
theorem LI.ac (h : LI B S T) (hq : q < ix (S 1 0 0 2)) (hk : k < 10) (hw : w = nI q) (hv : v = nI k) : x_X6_aircraft T w v = .inl (if k = 6 then tu (S 1 3 q 6) else S 1 3 q k) := by
  rw [ac_of h.i2 (by rw [h.na]; exact hq) hk hw hv, h.2.2.2.2.2.2.2.2.1 q k hq hk]
theorem hs_S (hI : IN m) (hj : j < ix (m 0 0 0)) : x_X1_hasStand m (nI j) = true := by
  have := hI.ns.2
  rw [x_X1_hasStand_eq]
  unfold y_X1_hasStand
  rw [if_neg (nI_pos (by omega)), if_pos (by rw [hI.ns.1]; exact nI_lt (by omega) (by omega))]
theorem hs_T (hI : IN m) (hj : j < ix (m 0 0 1)) : x_X1_hasTug m (nI j) = true := by
  have := hI.nt.2
  rw [x_X1_hasTug_eq]
  unfold y_X1_hasTug
  rw [if_neg (nI_pos (by omega)), if_pos (by rw [hI.nt.1]; exact nI_lt (by omega) (by omega))]
/-- a stand's answers -/
noncomputable def sta (m : Mem) (j k : Nat) : Int32 := if k = 0 then m 1 j 0 else if k = 1 then m 1 j 1 else if k = 2 then (if x_X1_isPushedFrom m (nI j) = true then 1 else 0) else m 1 j 2
theorem st_of (hI : IN (S 1)) (hj : j < ix (S 1 0 0 0)) (hk : k < 4) (hw : w = nI j) (hv : v = nI k) : x_X6_stand S w v = .inl (sta (S 1) j k) := by
  have b := hI.ns.2
  subst hw
  subst hv
  rw [x_X6_stand_eq]
  unfold y_X6_stand
  rw [if_pos (hs_S hI hj), if_neg (out_k (c := 3) (M := 3) rfl rfl (by omega) (by decide)), ix_nI (by omega), x_X1_standAnswer_eq]
  unfold y_X1_standAnswer sta
  match k, hk with
  | 0, _ => rfl
  | 1, _ => rfl
  | 2, _ => rfl
  | 3, _ => rfl
theorem LI.n4 (h : LI B S T) : ix (S 1 0 0 0) = 4 := h.2.2.2.2.ns
theorem LI.n3 (h : LI B S T) : ix (S 1 0 0 1) = 3 := h.2.2.2.2.nt
theorem LI.st (h : LI B S T) (hj : j < 4) (hk : k < 4) (hw : w = nI (3 - j)) (hv : v = nI k) : x_X6_stand T w v = .inl (sta (S 1) j k) := by
  rw [st_of h.i2 (by rw [h.2.2.2.2.ns']; omega) hk hw hv]
  have t := h.2.2.2.2
  unfold sta
  rw [t.s hj (by decide), t.s hj (by decide), t.s hj (by decide)]
  have e : x_X1_isPushedFrom (T 1) (nI (3 - j)) = true ↔ x_X1_isPushedFrom (S 1) (nI j) = true := by
    rw [pf_j h.i2 (by rw [t.ns']; omega), pf_j h.i1 (by rw [t.ns]; omega)]
    exact pf_tw t h.i1 hj
  by_cases g : x_X1_isPushedFrom (S 1) (nI j) = true
  · rw [if_pos g, if_pos (e.mpr g)]
  · rw [if_neg g, if_neg (fun z => g (e.mp z))]
theorem tg_of (hI : IN (S 1)) (hj : t < ix (S 1 0 0 1)) (hk : k < 5) (hw : w = nI t) (hv : v = nI k) : x_X6_tug S w v = .inl (S 1 2 t k) := by
  have b := hI.nt.2
  subst hw
  subst hv
  rw [x_X6_tug_eq]
  unfold y_X6_tug
  rw [if_pos (hs_T hI hj), if_neg (out_k (c := 4) (M := 4) rfl rfl (by omega) (by decide)), ix_nI (by omega), an_T hk]
theorem LI.tg (h : LI B S T) (hj : t < 3) (hk : k < 5) (hw : w = nI (2 - t)) (hv : v = nI k) : x_X6_tug T w v = .inl (S 1 2 t k) := by
  rw [tg_of h.i2 (by rw [h.2.2.2.2.nt']; omega) hk hw hv, h.2.2.2.2.u hj hk]
theorem wy_of (hI : IN (S 1)) (hq : q < ix (S 1 0 0 2)) (hw : w = nI q) : x_X6_why S w = .inl (x_X1_reason (S 1) q) := by
  have b := hI.na.2
  subst hw
  rw [x_X6_why_eq]
  unfold y_X6_why
  rw [if_pos (has_A' hI hq), ix_nI (by omega)]
theorem LI.wy (h : LI B S T) (hq : q < ix (S 1 0 0 2)) (hw : w = nI q) : x_X6_why T w = .inl (x_X1_reason (S 1) q) := by
  rw [wy_of h.i2 (by rw [h.na]; exact hq) hw, re_tw h.2.2.2.2 h.i1 h.i2 h.2.2.1.2.2 hq]
theorem LI.us (h : LI B S T) : x_X6_used T = x_X6_used S ∧ FP.Core.dIsNaN (x_X6_used S) = false := by
  have t := h.2.2.2.2
  refine ⟨?_, h.1.elim fun μ z => (call_used z (Nat.le_refl B) h.bd).1⟩
  rw [x_X6_used_eq]
  unfold y_X6_used
  rw [t.c (z := 3) (by decide), t.c (z := 0) (by decide), t.ns]
  have e : ∀ U : Sys, lf_X6_used_16 U 4 0 = 0 + U 1 1 0 2 + U 1 1 1 2 + U 1 1 2 2 + U 1 1 3 2 := fun U => by
    rw [lf_X6_used_16_eq]
    rfl
  rw [e, e, t.s' (j := 0) (by decide) (by decide), t.s' (j := 1) (by decide) (by decide), t.s' (j := 2) (by decide) (by decide), t.s' (j := 3) (by decide) (by decide)]
  have z : (0 : Int32) + S 1 1 3 2 + S 1 1 2 2 + S 1 1 1 2 + S 1 1 0 2 = 0 + S 1 1 0 2 + S 1 1 1 2 + S 1 1 2 2 + S 1 1 3 2 := by
    rw [Int32.zero_add, Int32.zero_add, Int32.add_comm (S 1 1 3 2 + S 1 1 2 2 + S 1 1 1 2), Int32.add_comm (S 1 1 3 2 + S 1 1 2 2), Int32.add_comm (S 1 1 3 2), Int32.add_assoc, Int32.add_assoc]
  rw [show S 1 1 (3 - 0) 2 = S 1 1 3 2 from rfl, show S 1 1 (3 - 1) 2 = S 1 1 2 2 from rfl, show S 1 1 (3 - 2) 2 = S 1 1 1 2 from rfl, show S 1 1 (3 - 3) 2 = S 1 1 0 2 from rfl, z]
/-! sums -/
theorem pl_6 (hI : IN m) (hp : p < ix (m 0 0 2)) : m 3 p 5 = nI 0 ∨ m 3 p 5 = nI 1 ∨ m 3 p 5 = nI 2 ∨ m 3 p 5 = nI 3 ∨ m 3 p 5 = nI 4 ∨ m 3 p 5 = nI 5 := by
  rcases hI.2.1.1 p hp with ⟨e | e | e | e, -⟩ | ⟨e | e | e, -⟩
  · exact Or.inl e
  · exact Or.inr (Or.inr (Or.inl e))
  · exact Or.inr (Or.inr (Or.inr (Or.inr (Or.inr e))))
  · exact Or.inr (Or.inr (Or.inr (Or.inr (Or.inl e))))
  · exact Or.inr (Or.inl e)
  · exact Or.inr (Or.inr (Or.inr (Or.inl e)))
  · exact Or.inr (Or.inr (Or.inr (Or.inr (Or.inl e))))
theorem cnt_sum : ∀ N, (∀ p, p < N → m 3 p 5 = nI 0 ∨ m 3 p 5 = nI 1 ∨ m 3 p 5 = nI 2 ∨ m 3 p 5 = nI 3 ∨ m 3 p 5 = nI 4 ∨ m 3 p 5 = nI 5) → cnt m (nI 0) N + cnt m (nI 1) N + cnt m (nI 2) N + cnt m (nI 3) N + cnt m (nI 4) N + cnt m (nI 5) N = N
  | 0, _ => rfl
  | N + 1, h => by
    have ih := cnt_sum N (fun p hp => h p (by omega))
    have st : ∀ w : Int32, cnt m w (N + 1) = cnt m w N + if m 3 N 5 = w then 1 else 0 := fun _ => rfl
    rw [st, st, st, st, st, st]
    have ne : ∀ a b : Nat, a < 6 → b < 6 → a ≠ b → ¬ nI a = nI b := fun a b ha hb hab z => hab (nI_inj (by omega) (by omega) z)
    rcases h N (Nat.lt_succ_self N) with e | e | e | e | e | e <;> rw [e]
    · rw [if_pos rfl, if_neg (ne 0 1 (by decide) (by decide) (by decide)), if_neg (ne 0 2 (by decide) (by decide) (by decide)), if_neg (ne 0 3 (by decide) (by decide) (by decide)), if_neg (ne 0 4 (by decide) (by decide) (by decide)), if_neg (ne 0 5 (by decide) (by decide) (by decide))]
      omega
    · rw [if_pos rfl, if_neg (ne 1 0 (by decide) (by decide) (by decide)), if_neg (ne 1 2 (by decide) (by decide) (by decide)), if_neg (ne 1 3 (by decide) (by decide) (by decide)), if_neg (ne 1 4 (by decide) (by decide) (by decide)), if_neg (ne 1 5 (by decide) (by decide) (by decide))]
      omega
    · rw [if_pos rfl, if_neg (ne 2 0 (by decide) (by decide) (by decide)), if_neg (ne 2 1 (by decide) (by decide) (by decide)), if_neg (ne 2 3 (by decide) (by decide) (by decide)), if_neg (ne 2 4 (by decide) (by decide) (by decide)), if_neg (ne 2 5 (by decide) (by decide) (by decide))]
      omega
    · rw [if_pos rfl, if_neg (ne 3 0 (by decide) (by decide) (by decide)), if_neg (ne 3 1 (by decide) (by decide) (by decide)), if_neg (ne 3 2 (by decide) (by decide) (by decide)), if_neg (ne 3 4 (by decide) (by decide) (by decide)), if_neg (ne 3 5 (by decide) (by decide) (by decide))]
      omega
    · rw [if_pos rfl, if_neg (ne 4 0 (by decide) (by decide) (by decide)), if_neg (ne 4 1 (by decide) (by decide) (by decide)), if_neg (ne 4 2 (by decide) (by decide) (by decide)), if_neg (ne 4 3 (by decide) (by decide) (by decide)), if_neg (ne 4 5 (by decide) (by decide) (by decide))]
      omega
    · rw [if_pos rfl, if_neg (ne 5 0 (by decide) (by decide) (by decide)), if_neg (ne 5 1 (by decide) (by decide) (by decide)), if_neg (ne 5 2 (by decide) (by decide) (by decide)), if_neg (ne 5 3 (by decide) (by decide) (by decide)), if_neg (ne 5 4 (by decide) (by decide) (by decide))]
      omega
theorem an_6 (hI : IN m) (hk : k < 6) : x_X1_answer m (nI (6 + k)) = nI (cnt m (nI k) (ix (m 0 0 2))) := by
  rw [← cnt_of hI.na.2, x_X1_answer_eq]
  unfold y_X1_answer
  have ne : ∀ b : Nat, b < 100 → b ≠ 6 + k → ¬ nI (6 + k) = nI b := fun b hb h z => h (nI_inj (by omega) (by omega) z).symm
  rw [if_neg (show ¬ nI (6 + k) = 0 from ne 0 (by decide) (by omega)), if_neg (show ¬ nI (6 + k) = 1 from ne 1 (by decide) (by omega)), if_neg (show ¬ nI (6 + k) = 2 from ne 2 (by decide) (by omega)), if_neg (show ¬ nI (6 + k) = 3 from ne 3 (by decide) (by omega)), if_neg (show ¬ nI (6 + k) = 4 from ne 4 (by decide) (by omega)), if_neg (show ¬ nI (6 + k) = 5 from ne 5 (by decide) (by omega)), if_neg (show ¬ nI (6 + k) = 12 from ne 12 (by decide) (by omega)), if_neg (show ¬ nI (6 + k) = 13 from ne 13 (by decide) (by omega)), if_neg (show ¬ nI (6 + k) = 14 from ne 14 (by decide) (by omega)), if_neg (show ¬ nI (6 + k) = 15 from ne 15 (by decide) (by omega)), show nI (6 + k) - 6 = nI (6 + k - 6) from pk_sub (b := 6) (by omega), Nat.add_sub_cancel_left]
theorem an_2 : x_X1_answer m (nI 2) = m 0 0 2 := by
  rw [x_X1_answer_eq]
  rfl
theorem an_3 : x_X1_answer m (nI 3) = m 0 0 3 := by
  rw [x_X1_answer_eq]
  rfl
theorem an_11 (hI : IN m) : x_X1_answer m (nI 11) = nI (cnt m 5 (ix (m 0 0 2))) := an_6 (k := 5) hI (by decide)
theorem an_14 : x_X1_answer m (nI 14) = isum (fun p => m 3 p 9) (ix (m 0 0 2)) := by
  rw [x_X1_answer_eq]
  show x_X1_sumOfBuses m = _
  rw [x_X1_sumOfBuses_eq]
  unfold y_X1_sumOfBuses
  rw [lf_X1_sumOfBuses_4_eq]
  unfold ly_X1_sumOfBuses_4
  exact itr_inv (n := ix (m 0 0 2)) (s := (0 : Int32)) (P := fun i c => c = isum (fun p => m 3 p 9) i) (fun jz s => bd_X1_sumOfBuses_4 m jz s) (fun i c hi g => by
    show bd_X1_sumOfBuses_4 m i c = isum (fun p => m 3 p 9) i + m 3 i 9
    rw [← g]
    rfl) rfl
/-- the states, added up -/
theorem st_sum (hI : IN m) : isum (fun k => x_X1_answer m (nI (6 + k))) 6 = m 0 0 2 := by
  show 0 + x_X1_answer m (nI (6 + 0)) + x_X1_answer m (nI (6 + 1)) + x_X1_answer m (nI (6 + 2)) + x_X1_answer m (nI (6 + 3)) + x_X1_answer m (nI (6 + 4)) + x_X1_answer m (nI (6 + 5)) = m 0 0 2
  rw [an_6 hI (by decide), an_6 hI (by decide), an_6 hI (by decide), an_6 hI (by decide), an_6 hI (by decide), an_6 hI (by decide), Int32.zero_add, nI_add, nI_add, nI_add, nI_add, nI_add, cnt_sum _ (fun p hp => pl_6 hI hp)]
  exact hI.na.1.symm
end ANS
