/-! the stands' minutes in the model's row -/
section SXS
variable {μ : Mem} {z : Nat}
theorem sx_writes {p1 p2 : Int32} (h : 8 ≤ z) (h2 : z < 20) : x_X7_writes μ p1 p2 1 0 z = μ 1 0 z := by
  rw [wr_at, if_neg (by omega), if_neg (by omega), if_neg (by omega), if_neg (by omega), if_neg (by omega)]
theorem sx_buses {q : Nat} (h : 8 ≤ z) (h2 : z < 20) : x_X7_buses μ q 1 0 z = μ 1 0 z := by
  rw [x_X7_buses_eq]
  unfold y_X7_buses
  rw [up3_k (by omega), up3_k (by omega)]
theorem sx_takes {t w : Nat} {p2 p3 : Int32} (h : 8 ≤ z) (h2 : z < 20) : x_X7_takes μ t p2 p3 w 1 0 z = μ 1 0 z := by
  rw [x_X7_takes_eq]
  unfold y_X7_takes
  rw [up3_k (by omega), up3_k (by omega), up3_k (by omega)]
theorem sx_pushes {q : Nat} (h : 8 ≤ z) (h2 : z < 20) : x_X7_pushes μ q 1 0 z = μ 1 0 z := by
  rw [x_X7_pushes_eq]
  unfold y_X7_pushes
  split
  · rw [sx_writes h h2, up3_k (by omega), up3_k (by omega), sx_takes h h2, sx_buses h h2]
  · rw [sx_writes h h2, up3_k (by omega), up3_k (by omega), sx_takes h h2]
theorem sx_tugs (h : 8 ≤ z) (h2 : z < 20) : x_X7_tugs μ 1 0 z = μ 1 0 z := by
  rw [x_X7_tugs_eq]
  unfold y_X7_tugs
  rw [lf_X7_tugs_2_eq]
  unfold ly_X7_tugs_2
  refine itr_inv (P := fun (_ : Nat) (s : Mem) => s 1 0 z = μ 1 0 z) _ (fun j s _ g => ?_) rfl
  show bd_X7_tugs_2 j s 1 0 z = μ 1 0 z
  unfold bd_X7_tugs_2
  repeat' split
  all_goals
    repeat (first | rw [sx_writes h h2] | rw [up3_k (by omega)])
    exact g
theorem sx_arrivals (h : 8 ≤ z) (h2 : z < 20) : x_X7_arrivals μ 1 0 z = μ 1 0 z := by
  rw [x_X7_arrivals_eq]
  unfold y_X7_arrivals
  rw [lf_X7_arrivals_2_eq]
  unfold ly_X7_arrivals_2
  refine itr_inv (P := fun (_ : Nat) (s : Mem) => s 1 0 z = μ 1 0 z) _ (fun j s _ g => ?_) rfl
  show bd_X7_arrivals_2 j s 1 0 z = μ 1 0 z
  unfold bd_X7_arrivals_2
  repeat' split
  all_goals
    repeat (first | rw [sx_writes h h2] | rw [sx_buses h h2] | rw [up3_k (by omega)])
    exact g
theorem sx_towing (h : 8 ≤ z) (h2 : z < 20) : x_X7_towing μ 1 0 z = μ 1 0 z := by
  rw [x_X7_towing_eq]
  unfold y_X7_towing
  rw [lf_X7_towing_2_eq]
  unfold ly_X7_towing_2
  refine itr_inv (P := fun (_ : Nat) (s : Mem) => s 1 0 z = μ 1 0 z) _ (fun j s _ g => ?_) rfl
  show bd_X7_towing_2 j s 1 0 z = μ 1 0 z
  unfold bd_X7_towing_2
  repeat' split
  all_goals
    repeat (first | rw [sx_writes h h2] | rw [sx_takes h h2] | rw [up3_k (by omega)])
    exact g
theorem sx_pushbacks (h : 8 ≤ z) (h2 : z < 20) : x_X7_pushbacks μ 1 0 z = μ 1 0 z := by
  rw [x_X7_pushbacks_eq]
  unfold y_X7_pushbacks
  have e2 : ∀ N, lf_X7_pushbacks_2 N μ 1 = μ 1 := by
    intro N
    rw [lf_X7_pushbacks_2_eq]
    unfold ly_X7_pushbacks_2
    exact itr_inv (P := fun (_ : Nat) (s : Mem) => s 1 = μ 1) _ (fun j s _ g => (up3_fam (by decide)).trans g) rfl
  rw [lf_X7_pushbacks_23_eq]
  unfold ly_X7_pushbacks_23
  refine (itr_inv (P := fun (_ : Nat) (s : Mem × Int32) => s.1 1 0 z = μ 1 0 z) _ (fun j s _ g => ?_) (by show lf_X7_pushbacks_2 12 μ 1 0 z = _; rw [e2]))
  show (bd_X7_pushbacks_23 j s.1 s.2).1 1 0 z = μ 1 0 z
  unfold bd_X7_pushbacks_23
  repeat' split
  all_goals
    dsimp only
    repeat (first | rw [sx_pushes h h2] | rw [up3_ne (by simp)])
    exact g
def UM (μ : Mem) : Prop := VN 13000 (μ 1 0 3) ∧ ∀ j, j < 6 → VN (ix (μ 1 0 3)) (μ 1 0 (8 + 2 * j + 1))
theorem um_minute (h : UM μ) (h3 : x_X7_minute μ 1 0 3 = μ 1 0 3 + 1) (hl : ix (μ 1 0 3) < 13000) : UM (x_X7_minute μ) := by
  have v1 := vn_s (B := 13000) h.1 (by decide)
  unfold UM
  rw [h3]
  refine ⟨⟨v1.1.1, by rw [v1.2]; omega⟩, fun j hj => ?_⟩
  rw [v1.2]
  have hv := h.2 j hj
  rw [x_X7_minute_eq]
  unfold y_X7_minute
  rw [up3_k (by omega)]
  have e : x_X7_towing (x_X7_pushbacks (x_X7_arrivals (x_X7_tugs μ))) 1 0 (8 + 2 * j + 1) = μ 1 0 (8 + 2 * j + 1) := by
    rw [sx_towing (by omega) (by omega), sx_pushbacks (by omega) (by omega), sx_arrivals (by omega) (by omega), sx_tugs (by omega) (by omega)]
  generalize x_X7_towing (x_X7_pushbacks (x_X7_arrivals (x_X7_tugs μ))) = ν at e ⊢
  generalize ix (μ 1 0 0) = N
  rw [lf_X7_minute_18_eq]
  unfold ly_X7_minute_18
  have q := itr_inv (n := N) (s := ν) (P := fun i (s : Mem) => s 1 0 (8 + 2 * j + 1) = ν 1 0 (8 + 2 * j + 1) + (if j < i ∧ ¬ s 1 0 (8 + 2 * j + 1) = ν 1 0 (8 + 2 * j + 1) then 1 else 0) ∧ (i ≤ j → s 1 0 (8 + 2 * j + 1) = ν 1 0 (8 + 2 * j + 1))) (fun jz s => bd_X7_minute_18 jz s) (fun i s hi g => ?_) ⟨by simp, fun _ => rfl⟩
  · have z := q.1
    rw [z, e]
    split
    · exact (vn_s hv (by have := h.1.2; omega)).1
    · rw [show μ 1 0 (8 + 2 * j + 1) + 0 = μ 1 0 (8 + 2 * j + 1) by simp]
      exact ⟨hv.1, Nat.le_succ_of_le hv.2⟩
  · show bd_X7_minute_18 i s 1 0 (8 + 2 * j + 1) = ν 1 0 (8 + 2 * j + 1) + (if j < i + 1 ∧ ¬ bd_X7_minute_18 i s 1 0 (8 + 2 * j + 1) = ν 1 0 (8 + 2 * j + 1) then 1 else 0) ∧ (i + 1 ≤ j → bd_X7_minute_18 i s 1 0 (8 + 2 * j + 1) = ν 1 0 (8 + 2 * j + 1))
    have nx : ∀ x : Int32, ¬ x + 1 = x := fun x z => by
      have : x + 1 - x = x - x := by rw [z]
      rw [Int32.sub_self, Int32.add_comm, Int32.add_sub_cancel] at this
      exact absurd this (by decide)
    unfold bd_X7_minute_18
    by_cases h1 : x_X7_planeOf s (nI i) = -1
    · rw [if_pos h1]
      refine ⟨?_, fun l => g.2 (by omega)⟩
      by_cases y : s 1 0 (8 + 2 * j + 1) = ν 1 0 (8 + 2 * j + 1)
      · rw [if_neg (fun z => z.2 y), y]
        simp
      · have g1 := g.1
        by_cases l : j < i
        · rw [if_pos ⟨l, y⟩] at g1
          rw [if_pos ⟨by omega, y⟩]
          exact g1
        · exact absurd (g.2 (by omega)) y
    · rw [if_neg h1]
      by_cases l : i = j
      · subst l
        have g2 := g.2 (Nat.le_refl _)
        rw [up3_k (by omega), up3_self, g2, if_pos ⟨Nat.lt_succ_self _, nx _⟩]
        exact ⟨rfl, fun l => absurd l (by omega)⟩
      · rw [up3_k (by omega), up3_k (by omega)]
        refine ⟨?_, fun l => g.2 (by omega)⟩
        by_cases y : s 1 0 (8 + 2 * j + 1) = ν 1 0 (8 + 2 * j + 1)
        · rw [if_neg (fun z => z.2 y), y]
          simp
        · have g1 := g.1
          by_cases l : j < i
          · rw [if_pos ⟨l, y⟩] at g1
            rw [if_pos ⟨by omega, y⟩]
            exact g1
          · exact absurd (g.2 (by omega)) y
end SXS
