/-! what the model's minutes leave alone -/
theorem up3_fam {m : Mem} {f i k f' : Nat} {v : Int32} (h : f' ≠ f) : up3 m f i k v f' = m f' := by
  funext i' k'
  exact up3_ne (fun q => h q.1)
section FRM
variable {f : Nat} {m : Mem}
theorem fr_writes {p1 p2 : Int32} (h : f ≠ 1) : x_X7_writes m p1 p2 f = m f := by
  have e : ∀ a b, lf_X7_writes_3 a b 87 m f = m f := by
    intro a b
    rw [lf_X7_writes_3_eq]
    unfold ly_X7_writes_3
    exact itr_inv (P := fun (_ : Nat) (s : Mem) => s f = m f) _ (fun j s _ g => (up3_fam h).trans g) rfl
  rw [x_X7_writes_eq]
  unfold y_X7_writes
  split
  all_goals
    rw [up3_fam h, up3_fam h, up3_fam h, up3_fam h]
    exact e _ _
theorem fr_buses {q : Nat} (h : f ≠ 1) : x_X7_buses m q f = m f := by
  rw [x_X7_buses_eq]
  unfold y_X7_buses
  rw [up3_fam h, up3_fam h]
theorem fr_takes {t w : Nat} {p2 p3 : Int32} (h : f ≠ 1) : x_X7_takes m t p2 p3 w f = m f := by
  rw [x_X7_takes_eq]
  unfold y_X7_takes
  rw [up3_fam h, up3_fam h, up3_fam h]
theorem fr_pushes {q : Nat} (h : f ≠ 1) : x_X7_pushes m q f = m f := by
  rw [x_X7_pushes_eq]
  unfold y_X7_pushes
  split
  · rw [fr_writes h, up3_fam h, up3_fam h, fr_takes h, fr_buses h]
  · rw [fr_writes h, up3_fam h, up3_fam h, fr_takes h]
theorem fr_tugs (h : f ≠ 1) : x_X7_tugs m f = m f := by
  rw [x_X7_tugs_eq]
  unfold y_X7_tugs
  rw [lf_X7_tugs_2_eq]
  unfold ly_X7_tugs_2
  refine itr_inv (P := fun (_ : Nat) (s : Mem) => s f = m f) _ (fun j s _ g => ?_) rfl
  show bd_X7_tugs_2 j s f = m f
  unfold bd_X7_tugs_2
  repeat' split
  all_goals
    repeat (first | rw [fr_writes h] | rw [up3_fam h])
    exact g
theorem fr_arrivals (h : f ≠ 1) : x_X7_arrivals m f = m f := by
  rw [x_X7_arrivals_eq]
  unfold y_X7_arrivals
  rw [lf_X7_arrivals_2_eq]
  unfold ly_X7_arrivals_2
  refine itr_inv (P := fun (_ : Nat) (s : Mem) => s f = m f) _ (fun j s _ g => ?_) rfl
  show bd_X7_arrivals_2 j s f = m f
  unfold bd_X7_arrivals_2
  repeat' split
  all_goals
    repeat (first | rw [fr_writes h] | rw [fr_buses h] | rw [up3_fam h])
    exact g
theorem fr_towing (h : f ≠ 1) : x_X7_towing m f = m f := by
  rw [x_X7_towing_eq]
  unfold y_X7_towing
  rw [lf_X7_towing_2_eq]
  unfold ly_X7_towing_2
  refine itr_inv (P := fun (_ : Nat) (s : Mem) => s f = m f) _ (fun j s _ g => ?_) rfl
  show bd_X7_towing_2 j s f = m f
  unfold bd_X7_towing_2
  repeat' split
  all_goals
    repeat (first | rw [fr_writes h] | rw [up3_fam h] | rw [fr_takes h])
    exact g
theorem fr_pushbacks (h : f ≠ 1) (h4 : f ≠ 4) : x_X7_pushbacks m f = m f := by
  rw [x_X7_pushbacks_eq]
  unfold y_X7_pushbacks
  have e2 : ∀ N, lf_X7_pushbacks_2 N m f = m f := by
    intro N
    rw [lf_X7_pushbacks_2_eq]
    unfold ly_X7_pushbacks_2
    exact itr_inv (P := fun (_ : Nat) (s : Mem) => s f = m f) _ (fun j s _ g => (up3_fam h4).trans g) rfl
  rw [lf_X7_pushbacks_23_eq]
  unfold ly_X7_pushbacks_23
  refine (itr_inv (P := fun (_ : Nat) (s : Mem × Int32) => s.1 f = m f) _ (fun j s _ g => ?_) (e2 _))
  show (bd_X7_pushbacks_23 j s.1 s.2).1 f = m f
  unfold bd_X7_pushbacks_23
  repeat' split
  all_goals
    dsimp only
    repeat (first | rw [fr_pushes h] | rw [up3_fam h4])
    exact g
theorem fr_minute (h : f ≠ 1) (h4 : f ≠ 4) : x_X7_minute m f = m f := by
  have e : ∀ N, lf_X7_minute_18 N (x_X7_towing (x_X7_pushbacks (x_X7_arrivals (x_X7_tugs m)))) f = m f := by
    intro N
    rw [lf_X7_minute_18_eq]
    unfold ly_X7_minute_18
    refine itr_inv (P := fun (_ : Nat) (s : Mem) => s f = m f) _ (fun j s _ g => ?_) ?_
    · show bd_X7_minute_18 j s f = m f
      unfold bd_X7_minute_18
      repeat' split
      all_goals
        repeat (first | rw [up3_fam h])
        exact g
    · rw [fr_towing h, fr_pushbacks h h4, fr_arrivals h, fr_tugs h]
  rw [x_X7_minute_eq]
  unfold y_X7_minute
  rw [up3_fam h]
  exact e _
theorem fr_toAll (h : f ≠ 1) (h4 : f ≠ 4) : (x_X7_toAll m).1 f = m f := by
  have e : ∀ N, (lf_X7_toAll_2 N m 0).1 f = m f := by
    intro N
    rw [lf_X7_toAll_2_eq]
    unfold ly_X7_toAll_2
    refine itr_inv (P := fun (_ : Nat) (s : Mem × Int32) => s.1 f = m f) _ (fun j s _ g => ?_) rfl
    show (bd_X7_toAll_2 j s.1 s.2).1 f = m f
    unfold bd_X7_toAll_2
    repeat' split
    all_goals
      dsimp only
      repeat (first | rw [fr_minute h h4])
      exact g
  rw [x_X7_toAll_eq]
  unfold y_X7_toAll
  split
  all_goals exact e _
end FRM
