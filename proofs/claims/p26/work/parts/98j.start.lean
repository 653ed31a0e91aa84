/-! the start -/
section STA
variable {S : Sys}
noncomputable def μ0 : Mem := x_X7_begins mz 3 1
theorem inv_0 : INV 0 S0 μ0 := by
  have f := fw_mz
  have v6 : VN 6 (3 : Int32) := ⟨by decide +kernel, by decide +kernel⟩
  have v3 : VN 3 (1 : Int32) := ⟨by decide +kernel, by decide +kernel⟩
  have uF : ∀ u, 1 ≤ u → u ≤ 6 → S0 u = mF := fun u h1 h6 => by
    unfold S0
    rw [if_neg (by omega), if_neg (by omega)]
  have u7 : S0 7 = mz := rfl
  have z : ix (0 : Int32) = 0 := by decide +kernel
  have fb : ∀ f, f ≠ 1 → μ0 f = mz f := fun f hf => fam_begins hf
  have c0 : S0 0 0 0 0 = 0 := rfl
  refine ⟨⟨by rw [c0]; exact vn_0, fun i hi => ?_, fun u h1 h6 => ?_, by rw [u7]; exact vn_0⟩, by decide, ?_, ?_, fun i j hi hj e => ?_, fun i hi => ?_, ?_, fun z' hz => ?_⟩
  · show VN 3 (nI i)
    exact ⟨by rw [ix_nI (by omega)], by rw [ix_nI (by omega)]; omega⟩
  · rw [uF u h1 h6]
    refine ⟨fk_build f.1 v6 v3, ?_⟩
    show VN 0 (x_X1_build mz 3 1 4 0 0)
    rw [tot_build]
    exact vn_0
  · rw [uF 1 (by decide) (by decide)]
    exact FR.begin' (u := mz) (μ := mz) rfl rfl vn_0 vn_0 v6 (by decide) v3 (by decide)
  · rw [fb 0 (by decide)]
    rfl
  · exact nI_inj (by omega) (by omega) e
  · rw [c0, z] at hi
    exact absurd hi (Nat.not_lt_zero i)
  · rw [u7, fb 0 (by decide)]
    rfl
  · rw [u7] at hz
    have : ix (mz 0 0 0) = 0 := z
    rw [this] at hz
    exact absurd hz (Nat.not_lt_zero z')
theorem js_id {r : Int32 ⊕ String} : jS r S S = S := by
  cases r <;> rfl
end STA
