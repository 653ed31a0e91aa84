/-! laying aside, taking back -/
theorem cp_itr {f1 f2 : Nat} {m : Mem} (h : f1 ≠ f2) (F : Nat → Mem → Mem) (hF : ∀ j s, F j s = up3 s f2 0 j (s f1 0 j)) (N : Nat) : (∀ k, (itr F N 0 m) f2 0 k = if k < N then m f1 0 k else m f2 0 k) ∧ (∀ k, (itr F N 0 m) f2 (k + 1) = m f2 (k + 1)) ∧ ∀ f', f' ≠ f2 → (itr F N 0 m) f' = m f' := by
  refine itr_inv (P := fun (j : Nat) (s : Mem) => (∀ k, s f2 0 k = if k < j then m f1 0 k else m f2 0 k) ∧ (∀ k, s f2 (k + 1) = m f2 (k + 1)) ∧ ∀ f', f' ≠ f2 → s f' = m f') F (fun j s hj g => ?_) ⟨fun k => ?_, fun k => rfl, fun f' _ => rfl⟩
  · rw [hF]
    refine ⟨fun k => ?_, fun k => ?_, fun f' hf => (up3_fam hf).trans (g.2.2 f' hf)⟩
    · by_cases e : k = j
      · subst e
        rw [up3_self, if_pos (Nat.lt_succ_self k), g.2.2 f1 h]
      · rw [up3_ne (fun q => e q.2.2), g.1 k]
        by_cases l : k < j
        · rw [if_pos l, if_pos (show k < j + 1 by omega)]
        · rw [if_neg l, if_neg (show ¬ k < j + 1 by omega)]
    · rw [up3_rows (fun q => by cases q.2)]
      exact g.2.1 k
  · rw [if_neg (Nat.not_lt_zero k)]
theorem la_3 {m : Mem} {k : Nat} (hk : k < 245) : x_X7_laysAside m 3 0 k = m 1 0 k := by
  rw [x_X7_laysAside_eq]
  unfold y_X7_laysAside
  rw [lf_X7_laysAside_2_eq]
  unfold ly_X7_laysAside_2
  rw [(cp_itr (f1 := 1) (f2 := 3) (m := m) (by decide) (fun jz s => bd_X7_laysAside_2 jz s) (fun j s => rfl) 245).1 k, if_pos hk]
theorem la_f {m : Mem} {f : Nat} (hf : f ≠ 3) : x_X7_laysAside m f = m f := by
  rw [x_X7_laysAside_eq]
  unfold y_X7_laysAside
  rw [lf_X7_laysAside_2_eq]
  unfold ly_X7_laysAside_2
  exact (cp_itr (f1 := 1) (f2 := 3) (by decide) _ (fun j s => rfl) 245).2.2 f hf
theorem tb_1 {m : Mem} {k : Nat} (hk : k < 245) : x_X7_takesBack m 1 0 k = m 3 0 k := by
  rw [x_X7_takesBack_eq]
  unfold y_X7_takesBack
  rw [lf_X7_takesBack_2_eq]
  unfold ly_X7_takesBack_2
  rw [(cp_itr (f1 := 3) (f2 := 1) (m := m) (by decide) (fun jz s => bd_X7_takesBack_2 jz s) (fun j s => rfl) 245).1 k, if_pos hk]
theorem tb_f {m : Mem} {f : Nat} (hf : f ≠ 1) : x_X7_takesBack m f = m f := by
  rw [x_X7_takesBack_eq]
  unfold y_X7_takesBack
  rw [lf_X7_takesBack_2_eq]
  unfold ly_X7_takesBack_2
  exact (cp_itr (f1 := 3) (f2 := 1) (by decide) _ (fun j s => rfl) 245).2.2 f hf
/-- what was laid aside comes back -/
theorem tb_la {m m' : Mem} (h3 : m' 3 = x_X7_laysAside m 3) : ∀ k, k < 245 → x_X7_takesBack m' 1 0 k = m 1 0 k := fun k hk => by
  rw [tb_1 hk, h3, la_3 hk]
theorem MK.congr {m m' : Mem} (h : MK m) (e : ∀ k, k < 245 → m' 1 0 k = m 1 0 k) : MK m' := by
  unfold MK
  rw [e 0 (by decide), e 1 (by decide), e 2 (by decide), e 7 (by decide), e 21 (by decide), e 26 (by decide), e 31 (by decide)]
  exact h
theorem MW.congr {B : Nat} {m0 m m' : Mem} (h : MW B m0 m) (e : ∀ k, k < 245 → m' 1 0 k = m 1 0 k) : MW B m0 m' := ⟨h.1.congr e, rfl, fun k hk => (e k (by omega)).trans (h.2.2 k hk)⟩
