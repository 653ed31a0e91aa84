/-! minutes that are passed at once -/
def htN (m : Mem) : Nat → Nat → Nat → Nat → Int32
  | 0 => fun _ _ _ => 0
  | N + 1 => fun f i z => htN m N f i z + (if m 1 N 1 = -1 then 0 else if (f = 1 ∧ i = N ∧ z = 2) ∨ (f = 3 ∧ i = ix (m 1 N 1) ∧ z = 8) then 1 else 0)
def em (m : Mem) : Mem := fun f i z => htN m (ix (m 0 0 0)) f i z + (if f = 0 ∧ i = 0 ∧ z = 3 then 1 else 0) - dh m (ix (m 0 0 1)) f i z
def adv (k : Int32) (m : Mem) : Mem := fun f i z => m f i z + k * em m f i z
def AGR (x y : Mem) : Prop := (∀ k, k ≠ 3 → x 0 0 k = y 0 0 k) ∧ (∀ j k, k ≠ 2 → x 1 j k = y 1 j k) ∧ (∀ t k, k ≠ 2 → x 2 t k = y 2 t k) ∧ ∀ p k, k ≠ 8 → x 3 p k = y 3 p k
section QUI
variable {m μ x y : Mem} {B j p q k N P t : Nat} {w a b : Int32}
theorem ht0 {f i z : Nat} (h1 : ¬ (f = 1 ∧ z = 2)) (h3 : ¬ (f = 3 ∧ z = 8)) : ∀ N, htN m N f i z = 0
  | 0 => rfl
  | N + 1 => by
    show htN m N f i z + _ = 0
    rw [ht0 h1 h3 N, if_neg (show ¬ ((f = 1 ∧ i = N ∧ z = 2) ∨ (f = 3 ∧ i = ix (m 1 N 1) ∧ z = 8)) by omega)]
    split <;> rfl
theorem em0 {f i z : Nat} (h1 : ¬ (f = 1 ∧ z = 2)) (h3 : ¬ (f = 3 ∧ z = 8)) (h2 : ¬ (f = 2 ∧ z = 2)) (h0 : ¬ (f = 0 ∧ i = 0 ∧ z = 3)) : em m f i z = 0 := by
  unfold em dh
  rw [ht0 h1 h3, if_neg h0, if_neg (show ¬ (f = 2 ∧ z = 2 ∧ i < ix (m 0 0 1)) by omega)]
  rfl
theorem adv0 {f i z : Nat} (h1 : ¬ (f = 1 ∧ z = 2)) (h3 : ¬ (f = 3 ∧ z = 8)) (h2 : ¬ (f = 2 ∧ z = 2)) (h0 : ¬ (f = 0 ∧ i = 0 ∧ z = 3)) : adv w m f i z = m f i z := by
  unfold adv
  rw [em0 h1 h3 h2 h0]
  simp
theorem ht_congr (h : ∀ N, x 1 N 1 = m 1 N 1) : ∀ N, htN x N = htN m N
  | 0 => rfl
  | N + 1 => by
    funext f i z
    show htN x N f i z + _ = htN m N f i z + _
    rw [ht_congr h N, h N]
theorem em_adv : em (adv w m) = em m := by
  funext f i z
  have e0 : ∀ k, k ≠ 3 → adv w m 0 0 k = m 0 0 k := fun k hk => adv0 (by omega) (by omega) (by omega) (by omega)
  unfold em dh
  rw [ht_congr (x := adv w m) (m := m) (fun N => adv0 (by omega) (by omega) (by omega) (by omega)), e0 0 (by decide), e0 1 (by decide), adv0 (f := 2) (z := 1) (by omega) (by omega) (by omega) (by omega)]
theorem adv_adv : adv a (adv b m) = adv (b + a) m := by
  funext f i z
  show adv b m f i z + a * em (adv b m) f i z = m f i z + (b + a) * em m f i z
  rw [em_adv, Int32.add_mul, ← Int32.add_assoc]
  rfl
theorem cm_form : ∀ f i z, x_X1_countMinutes m w f i z = m f i z + w * htN m (ix (m 0 0 0)) f i z := by
  rw [x_X1_countMinutes_eq]
  unfold y_X1_countMinutes
  rw [lf_X1_countMinutes_2_eq]
  unfold ly_X1_countMinutes_2
  refine itr_inv (n := ix (m 0 0 0)) (s := m) (P := fun j (s : Mem) => ∀ f i z, s f i z = m f i z + w * htN m j f i z) (fun jz s => bd_X1_countMinutes_2 w jz s) (fun j s hj g => ?_) (fun f i z => ?_)
  · intro f i z
    have e1 : s 1 j 1 = m 1 j 1 := by
      rw [g, ht0 (by omega) (by omega)]
      simp
    show bd_X1_countMinutes_2 w j s f i z = m f i z + w * (htN m j f i z + (if m 1 j 1 = -1 then 0 else if (f = 1 ∧ i = j ∧ z = 2) ∨ (f = 3 ∧ i = ix (m 1 j 1) ∧ z = 8) then 1 else 0))
    unfold bd_X1_countMinutes_2
    rw [e1, up3_ne (m := s) (f := 1) (k := 2) (k' := 1) (by simp), e1]
    by_cases h1 : m 1 j 1 = -1
    · rw [if_pos h1, if_pos h1, g]
      simp
    · rw [if_neg h1, if_neg h1, Int32.mul_add, ← Int32.add_assoc, ← g]
      by_cases h2 : f = 3 ∧ i = ix (m 1 j 1) ∧ z = 8
      · obtain ⟨rfl, rfl, rfl⟩ := h2
        rw [up3_self, up3_ne (by simp), if_pos (Or.inr ⟨rfl, rfl, rfl⟩)]
        simp
      · rw [up3_ne h2]
        by_cases h3 : f = 1 ∧ i = j ∧ z = 2
        · obtain ⟨rfl, rfl, rfl⟩ := h3
          rw [up3_self, if_pos (Or.inl ⟨rfl, rfl, rfl⟩)]
          simp
        · rw [up3_ne h3, if_neg (fun q => q.elim h3 h2)]
          simp
  · show m f i z = m f i z + w * 0
    simp
theorem dec_form : ∀ f i z, lf_X1_passSome_55 a b w N m f i z = m f i z - w * dh m N f i z := by
  rw [lf_X1_passSome_55_eq]
  unfold ly_X1_passSome_55
  refine itr_inv (n := N) (s := m) (P := fun j (s : Mem) => ∀ f i z, s f i z = m f i z - w * dh m j f i z) (fun jz s => bd_X1_passSome_55 a b w jz s) (fun j s hj g => ?_) (fun f i z => ?_)
  · intro f i z
    have e1 : s 2 j 1 = m 2 j 1 := by
      rw [g]
      unfold dh
      rw [if_neg (by omega)]
      simp
    show bd_X1_passSome_55 a b w j s f i z = _
    unfold bd_X1_passSome_55
    rw [e1, dh_s, Int32.mul_add]
    by_cases h1 : m 2 j 1 = -1
    · rw [if_pos h1, g]
      by_cases e : f = 2 ∧ z = 2 ∧ i = j
      · rw [if_pos e, if_pos (by rw [e.2.2]; exact h1)]
        simp
      · rw [if_neg e]
        simp
    · rw [if_neg h1]
      by_cases e : f = 2 ∧ z = 2 ∧ i = j
      · obtain ⟨rfl, rfl, rfl⟩ := e
        rw [up3_self, if_pos ⟨rfl, rfl, rfl⟩, if_neg h1, g]
        unfold dh
        rw [if_neg (by omega)]
        simp
      · rw [up3_ne (by omega), g, if_neg e]
        simp
  · show m f i z = m f i z - w * dh m 0 f i z
    unfold dh
    rw [if_neg (by omega)]
    simp
/-- behind the tugs, the quiet ones and the counts: so many minutes on -/
theorem adv_of (hx : ∀ f i z, x f i z = m f i z - dh m (ix (m 0 0 1)) f i z) : up3 (x_X1_countMinutes (lf_X1_passSome_55 a b w (ix (m 0 0 1)) x) (1 + w)) 0 0 3 (x_X1_countMinutes (lf_X1_passSome_55 a b w (ix (m 0 0 1)) x) (1 + w) 0 0 3 + (1 + w)) = adv (1 + w) m := by
  have dz : ∀ (s : Mem) N f i z, ¬ (f = 2 ∧ z = 2) → dh s N f i z = 0 := fun s N f i z h => by
    unfold dh
    exact if_neg (fun q => h ⟨q.1, q.2.1⟩)
  have x1 : ∀ f i z, ¬ (f = 2 ∧ z = 2) → x f i z = m f i z := fun f i z h => by
    rw [hx, dz _ _ _ _ _ h]
    simp
  have dx : dh x (ix (m 0 0 1)) = dh m (ix (m 0 0 1)) := by
    funext f i z
    unfold dh
    rw [x1 2 i 1 (by omega)]
  have l1 : ∀ f i z, lf_X1_passSome_55 a b w (ix (m 0 0 1)) x f i z = m f i z - (1 + w) * dh m (ix (m 0 0 1)) f i z := fun f i z => by
    rw [dec_form, dx, hx, Int32.add_mul, Int32.one_mul]
    simp only [Int32.sub_eq_add_neg, Int32.neg_add, Int32.add_assoc]
  have l2 : ∀ f i z, ¬ (f = 2 ∧ z = 2) → lf_X1_passSome_55 a b w (ix (m 0 0 1)) x f i z = m f i z := fun f i z h => by
    rw [l1, dz _ _ _ _ _ h]
    simp
  have c1 : ∀ f i z, x_X1_countMinutes (lf_X1_passSome_55 a b w (ix (m 0 0 1)) x) (1 + w) f i z = m f i z - (1 + w) * dh m (ix (m 0 0 1)) f i z + (1 + w) * htN m (ix (m 0 0 0)) f i z := fun f i z => by
    rw [cm_form, l1, l2 0 0 0 (by omega), ht_congr (x := lf_X1_passSome_55 a b w (ix (m 0 0 1)) x) (m := m) (fun N => l2 1 N 1 (by omega))]
  funext f i z
  unfold adv em
  by_cases h : f = 0 ∧ i = 0 ∧ z = 3
  · obtain ⟨rfl, rfl, rfl⟩ := h
    rw [up3_self, c1, if_pos ⟨rfl, rfl, rfl⟩, dz _ _ _ _ _ (by omega), ht0 (by omega) (by omega)]
    simp
  · rw [up3_ne h, c1, if_neg h]
    generalize dh m (ix (m 0 0 1)) f i z = d
    generalize htN m (ix (m 0 0 0)) f i z = e
    generalize (1 + w) = u
    rw [Int32.add_zero, Int32.mul_sub]
    simp only [Int32.sub_eq_add_neg, Int32.add_assoc]
    congr 1
    exact Int32.add_comm _ _
/-! what agrees but in minutes looks alike -/
theorem fs_agr (h : AGR x y) : x_X1_freeStandFor x w = x_X1_freeStandFor y w := by
  rw [x_X1_freeStandFor_eq]
  unfold y_X1_freeStandFor
  rw [lf_X1_freeStandFor_4_eq]
  unfold ly_X1_freeStandFor_4
  rw [h.1 0 (by decide), show (fun jz s => bd_X1_freeStandFor_4 x w jz s) = fun jz s => bd_X1_freeStandFor_4 y w jz s from funext fun jz => funext fun s => by
    unfold bd_X1_freeStandFor_4
    rw [h.2.1 jz 1 (by decide), h.2.1 jz 0 (by decide), h.2.1 (ix s) 0 (by decide)]]
theorem ft_agr (h : AGR x y) : x_X1_freeTugFor x w = x_X1_freeTugFor y w := by
  rw [x_X1_freeTugFor_eq]
  unfold y_X1_freeTugFor
  rw [lf_X1_freeTugFor_4_eq]
  unfold ly_X1_freeTugFor_4
  rw [h.1 1 (by decide), show (fun jz s => bd_X1_freeTugFor_4 x w jz s) = fun jz s => bd_X1_freeTugFor_4 y w jz s from funext fun jz => funext fun s => by
    unfold bd_X1_freeTugFor_4
    rw [h.2.2.1 jz 1 (by decide), h.2.2.1 jz 0 (by decide), h.2.2.1 (ix s) 0 (by decide)]]
theorem pf_agr (h : AGR x y) : x_X1_isPushedFrom x w = x_X1_isPushedFrom y w := by
  rw [x_X1_isPushedFrom_eq]
  unfold y_X1_isPushedFrom
  rw [h.1 0 (by decide), h.2.1 _ 1 (by decide), h.2.2.2 _ 5 (by decide)]
theorem re_agr (h : AGR x y) (hl : x 0 0 3 < x 3 p 3 ∨ ¬ y 0 0 3 < y 3 p 3) (hc : x_X1_isCurfew x = true ∨ x_X1_isCurfew y = false) (hy : ¬ x_X1_reason y p = 0) : ¬ x_X1_reason x p = 0 := by
  rw [x_X1_reason_eq] at hy ⊢
  unfold y_X1_reason at hy ⊢
  rw [x_X0_isOnStandOrBay_eq] at hy ⊢
  unfold y_X0_isOnStandOrBay at hy ⊢
  rw [h.2.2.2 p 5 (by decide), h.2.2.2 p 3 (by decide), h.2.2.2 p 6 (by decide), h.2.2.2 p 1 (by decide), pf_agr h, pf_agr h, ft_agr h]
  rw [h.2.2.2 p 3 (by decide)] at hl
  by_cases h0 : y 3 p 5 = 0
  · rw [if_pos h0]
    decide
  · rw [if_neg h0] at hy ⊢
    by_cases h3 : y 3 p 5 = 3
    · rw [if_pos h3]
      decide
    · rw [if_neg h3] at hy ⊢
      by_cases hb : (if y 3 p 5 = 1 then true else if y 3 p 5 = 2 then true else false) = true
      · rw [if_pos hb] at hy ⊢
        by_cases l : x 0 0 3 < y 3 p 3
        · rw [if_pos l]
          decide
        · rw [if_neg l]
          rw [if_neg (hl.resolve_left l)] at hy
          by_cases c : x_X1_isCurfew x = true
          · rw [if_pos c]
            decide
          · rw [if_neg c]
            rw [if_neg (by rw [hc.resolve_left c]; decide)] at hy
            exact hy
      · rw [if_neg hb]
        decide
/-- nothing happens in the minute -/
def ZZ (x : Mem) : Prop := (∀ p, p < ix (x 0 0 2) → x 3 p 5 = 0 → x 0 0 3 < x 3 p 2) ∧ (∀ p, p < ix (x 0 0 2) → ¬ x_X1_reason x p = 0) ∧ ∀ p, p < ix (x 0 0 2) → x 3 p 5 = 2 → x 0 0 3 + 30 < x 3 p 3 → x_X1_freeStandFor x (x 3 p 0) = -1 ∨ x_X1_freeTugFor x (x 3 p 1) = -1
theorem zz_rest (h : ZZ x) (hI : IN x) : x_X1_tow (x_X1_pushBack (x_X1_receive x)) = x := by
  have ba := hI.na.2
  have r : x_X1_receive x = x := by
    rw [x_X1_receive_eq]
    unfold y_X1_receive
    rw [lf_X1_receive_2_eq]
    unfold ly_X1_receive_2
    refine itr_inv (n := ix (x 0 0 2)) (P := fun _ (s : Mem) => s = x) (fun jz s => bd_X1_receive_2 jz s) (fun j s hj g => ?_) rfl
    subst g
    show bd_X1_receive_2 j s = s
    unfold bd_X1_receive_2
    by_cases h1 : s 3 j 5 = 0
    · rw [if_pos h1, if_pos (h.1 j hj h1)]
    · rw [if_neg h1]
  have p : x_X1_pushBack x = x := by
    rw [x_X1_pushBack_eq]
    unfold y_X1_pushBack
    rw [lf_X1_pushBack_4_eq]
    unfold ly_X1_pushBack_4
    refine (itr_inv (n := ix (x 0 0 2)) (s := (x, (-1 : Int32))) (P := fun _ (s : Mem × Int32) => s.1 = x ∧ ∃ lo, LW s.2 lo) (fun jz s => bd_X1_pushBack_4 jz s.1 s.2) (fun j s hj g => ?_) ⟨rfl, 0, Or.inl ⟨rfl, rfl⟩⟩).1
    obtain ⟨s, c⟩ := s
    obtain ⟨rfl, lo, hlo⟩ := g
    show (bd_X1_pushBack_4 j s c).1 = s ∧ ∃ lo, LW (bd_X1_pushBack_4 j s c).2 lo
    unfold bd_X1_pushBack_4
    rcases nl_ok hI hlo with ⟨e, -⟩ | ⟨p, hp, e, -⟩
    · rw [if_pos e]
      exact ⟨rfl, lo, hlo⟩
    · rw [e, if_neg (nI_n1 (by omega)), ix_nI (by omega), if_neg (h.2.1 p hp)]
      exact ⟨rfl, ky s p + 1, Or.inr ⟨ky s p, tn_ky hI hp, rfl, (ky_lt hI hp).1⟩⟩
  rw [r, p, x_X1_tow_eq]
  unfold y_X1_tow
  rw [lf_X1_tow_2_eq]
  unfold ly_X1_tow_2
  refine itr_inv (n := ix (x 0 0 2)) (P := fun _ (s : Mem) => s = x) (fun jz s => bd_X1_tow_2 jz s) (fun j s hj g => ?_) rfl
  subst g
  show bd_X1_tow_2 j s = s
  unfold bd_X1_tow_2
  by_cases h1 : s 3 j 5 = 2
  · rw [if_pos h1]
    by_cases h2 : s 0 0 3 + 30 < s 3 j 3
    · rw [if_pos h2]
      rcases h.2.2 j hj h1 h2 with h3 | h3
      · rw [if_pos h3]
      · rw [if_pos h3]
        split <;> rfl
    · rw [if_neg h2]
  · rw [if_neg h1]
theorem wt_idle (hv : VN B (m 4 0 0)) (h : ∀ t, t < ix (m 0 0 1) → ¬ m 2 t 1 = -1 → ¬ m 2 t 2 - 1 = 0) : ∀ f i z, x_X1_workTugs m f i z = m f i z - dh m (ix (m 0 0 1)) f i z := by
  rw [x_X1_workTugs_eq]
  unfold y_X1_workTugs
  rw [lf_X1_workTugs_2_eq]
  unfold ly_X1_workTugs_2
  refine itr_inv (n := ix (m 0 0 1)) (s := m) (P := fun j (s : Mem) => ∀ f i z, s f i z = m f i z - dh m j f i z) (fun jz s => bd_X1_workTugs_2 jz s) (fun j s hj g => ?_) (fun f i z => ?_)
  · intro f i z
    have s1 : s 2 j 1 = m 2 j 1 ∧ s 2 j 2 = m 2 j 2 := by
      rw [g, g]
      unfold dh
      rw [if_neg (by omega), if_neg (by omega)]
      simp
    show bd_X1_workTugs_2 j s f i z = _
    unfold bd_X1_workTugs_2
    rw [up3_self, s1.1, s1.2, dh_s]
    by_cases h1 : m 2 j 1 = -1
    · rw [if_pos h1, g]
      by_cases e : f = 2 ∧ z = 2 ∧ i = j
      · rw [if_pos e, if_pos (by rw [e.2.2]; exact h1)]
        simp
      · rw [if_neg e]
        simp
    · rw [if_neg h1, if_neg (h j hj h1)]
      by_cases e : f = 2 ∧ z = 2 ∧ i = j
      · obtain ⟨rfl, rfl, rfl⟩ := e
        rw [up3_self, if_pos ⟨rfl, rfl, rfl⟩, if_neg h1]
        unfold dh
        rw [if_neg (by omega)]
        simp
      · rw [up3_ne (by omega), g, if_neg e]
        simp
  · show m f i z = m f i z - dh m 0 f i z
    unfold dh
    rw [if_neg (by omega)]
    simp
theorem dec_0 : lf_X1_passSome_55 a b 0 N m = m := by
  funext f i z
  rw [dec_form]
  simp
/-- a minute in which nothing happens -/
theorem m1_idle (h : RB B m μ) (hB : B + 3 < 2 ^ 31) (ht : ∀ t, t < ix (m 0 0 1) → ¬ m 2 t 1 = -1 → ¬ m 2 t 2 - 1 = 0) (hz : ZZ (x_X1_workTugs m)) : M1 m = adv 1 m := by
  have w := wt_ok h hB
  have e := adv_of (w := 0) (a := 0) (b := 0) (wt_idle h.2 ht)
  unfold M1
  rw [zz_rest hz w.1.1.2]
  rw [dec_0, show (1 : Int32) + 0 = 1 by decide] at e
  exact e
end QUI
