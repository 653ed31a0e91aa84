/-! doubles that are whole numbers (first of all parts: the library's laws of doubles are wanted from here on) -/
theorem dq_nn {a : UInt64} (h : FP.Core.dIsNaN a = false) : decide (a &&& 0x7fffffffffffffff ≤ 0x7ff0000000000000) = true := by
  have e := (FP.Core.ne_nan a).mp ((FP.Core.notNaN_iff a).mp h)
  refine decide_eq_true ?_
  rw [UInt64.le_iff_toNat_le, FP.Core.mask_toNat]
  exact e
theorem dq_i2d (x : Int32) : decide (FP.i2d x &&& 0x7fffffffffffffff ≤ 0x7ff0000000000000) = true := dq_nn (FP.Core.DFin.notNaN (FP.Core.i2d_fin x))
theorem dq_nz {x : Int32} (h : ¬ x = 0) : ¬ FP.Core.DZero (FP.i2d x) := by
  have z : (0 : Int32).toInt = 0 := by decide
  have := (FP.Core.i2d_big (v := x) (fun e => h (Int32.toInt_inj.mp (e.trans z.symm)))).1
  intro q
  have q2 : (FP.Core.i2d x).toNat % 2 ^ 63 = 0 := (FP.Core.zero_bits2 (FP.i2d x)).mp q
  omega
theorem dq_0 : FP.dconst0 = FP.i2d (nI 0) := by decide +kernel
theorem dq_add {S k : Nat} (hS : S ≤ 100000) (hk : k ≤ 13000) : FP.dadd (FP.i2d (nI S)) (FP.i2d (nI k)) = FP.i2d (nI (S + k)) := by
  have e1 : (nI S).toInt = (S : Int) := nI_toInt (by omega)
  have e2 : (nI k).toInt = (k : Int) := nI_toInt (by omega)
  have e3 : (nI (S + k)).toInt = ((S + k : Nat) : Int) := nI_toInt (by omega)
  by_cases hz : k = 0
  · subst hz
    rw [← dq_0, Nat.add_zero]
    refine FP.Core.dadd_zero ((FP.Core.notNaN_iff _).mp (FP.Core.DFin.notNaN (FP.Core.i2d_fin _))) (fun q => ?_)
    by_cases h0 : S = 0
    · subst h0
      revert q
      rw [← dq_0]
      decide +kernel
    · refine dq_nz (x := nI S) (fun e => ?_) ?_
      · rw [e] at e1
        have z : (0 : Int32).toInt = 0 := by decide
        omega
      · refine (FP.Core.zero_bits2 (FP.i2d (nI S))).mpr ?_
        rw [show FP.i2d (nI S) = _ from q]
        decide +kernel
  · refine FP.Core.dint_unique (i := ((S + k : Nat) : Int)) (by omega) ?_ ?_
    · have := FP.Core.dadd_int (FP.Core.i2d_int (nI S)) (FP.Core.i2d_int (nI k)) (by rw [e1, e2]; omega)
      rw [e1, e2] at this
      have e4 : ((S + k : Nat) : Int) = (S : Int) + (k : Int) := by omega
      rw [e4]
      exact this
    · rw [← e3]
      exact FP.Core.i2d_int _
theorem dq_div (x : Int32) {y : Int32} (hy : ¬ y = 0) : decide (FP.ddiv (FP.i2d x) (FP.i2d y) &&& 0x7fffffffffffffff ≤ 0x7ff0000000000000) = true := dq_nn (FP.Core.ddiv_out (FP.Core.DFin.notNaN (FP.Core.i2d_fin _)) (FP.Core.i2d_fin _) (dq_nz hy))
