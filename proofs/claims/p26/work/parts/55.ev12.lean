theorem in_of {x a b : Int64} (h : x_X7_in x a b = true) : ¬ x < a ∧ ¬ b < x := by
  rw [x_X7_in_eq] at h
  unfold y_X7_in at h
  refine ⟨fun e => ?_, fun e => ?_⟩
  · rw [if_pos e] at h
    cases h
  · rw [if_pos e] at h
    split at h <;> cases h
theorem in_VNk {x M : Int32} {k : Nat} {a b : Int64} (ha : 0 ≤ a.toInt) (hb : b.toInt = k) (hM : M.toInt = k) (h : x_X7_in x.toInt64 a b = true) (hk : k < 2 ^ 31) : VN k x := by
  obtain ⟨h1, h2⟩ := in_of h
  rw [Int64.lt_iff_toInt_lt, Int32.toInt_toInt64] at h1 h2
  obtain ⟨j, hj, e⟩ := nI_of2 (x := x) (M := M) (n := k) hM (fun q => by
    rw [Int32.lt_iff_toInt_lt] at q
    have z : (0 : Int32).toInt = 0 := by decide
    omega) (by
    rw [Int32.le_iff_toInt_le]
    omega)
  subst e
  unfold VN
  rw [ix_nI (by omega)]
  exact ⟨rfl, hj⟩
theorem in_VN6 {x : Int32} (h : x_X7_in x.toInt64 1 6 = true) : VN 6 x := in_VNk (M := 6) (by decide) (by decide) (by decide) h (by decide)
theorem in_VN3 {x : Int32} (h : x_X7_in x.toInt64 1 3 = true) : VN 3 x := in_VNk (M := 3) (by decide) (by decide) (by decide) h (by decide)
theorem vn_90 {x : Int32} (h : VN 90 x) (g : ¬ x = 90) : ix x < 90 := by
  have b := h.2
  have : ix x ≠ 90 := fun e => g (by rw [h.1, e]; rfl)
  omega
noncomputable def y_X7_minutesIf (m : Mem) : Mem × Int32 := ((x_X7_takesBack ((x_X7_toAll (x_X7_laysAside m)).1)), (x_X7_toAll (x_X7_laysAside m)).2)
theorem xe_X7_minutesIf : ∃ f, f = y_X7_minutesIf := ⟨y_X7_minutesIf, rfl⟩
noncomputable def x_X7_minutesIf := Classical.choose xe_X7_minutesIf
theorem x_X7_minutesIf_eq : x_X7_minutesIf = y_X7_minutesIf := Classical.choose_spec xe_X7_minutesIf
noncomputable def y_X7_here (m : Mem) : Int32 := (if (m 0 0 3) < (m 0 0 2) then (m 5 0 (ix (m 0 0 3))) else (-1))
theorem xe_X7_here : ∃ f, f = y_X7_here := ⟨y_X7_here, rfl⟩
noncomputable def x_X7_here := Classical.choose xe_X7_here
theorem x_X7_here_eq : x_X7_here = y_X7_here := Classical.choose_spec xe_X7_here
noncomputable def y_X7_passes (m : Mem) (p1 : Int32) : Mem × Bool := (if (x_X7_here m) = p1 then ((up3 m 0 0 3 ((m 0 0 3) + 1)), true) else ((up3 m 0 0 3 ((m 0 0 3) + 0)), false))
theorem xe_X7_passes : ∃ f, f = y_X7_passes := ⟨y_X7_passes, rfl⟩
noncomputable def x_X7_passes := Classical.choose xe_X7_passes
theorem x_X7_passes_eq : x_X7_passes = y_X7_passes := Classical.choose_spec xe_X7_passes
noncomputable def y_X7_readsDigit (m : Mem) (a : Nat) (p2 : Int32) : Mem × Bool := (if (x_X7_in (((x_X7_here m)).toInt64) 49 (((48 + p2)).toInt64)) = true then ((up3 (up3 m 6 0 a ((x_X7_here m) - 48)) 0 0 3 (((up3 m 6 0 a ((x_X7_here m) - 48)) 0 0 3) + 1)), (x_X7_in (((x_X7_here m)).toInt64) 49 (((48 + p2)).toInt64))) else ((up3 (up3 m 6 0 a ((x_X7_here m) - 48)) 0 0 3 (((up3 m 6 0 a ((x_X7_here m) - 48)) 0 0 3) + 0)), (x_X7_in (((x_X7_here m)).toInt64) 49 (((48 + p2)).toInt64))))
theorem xe_X7_readsDigit : ∃ f, f = y_X7_readsDigit := ⟨y_X7_readsDigit, rfl⟩
noncomputable def x_X7_readsDigit := Classical.choose xe_X7_readsDigit
theorem x_X7_readsDigit_eq : x_X7_readsDigit = y_X7_readsDigit := Classical.choose_spec xe_X7_readsDigit
noncomputable def y_X7_clearText (m : Mem) : Mem × Int32 := ((x_X7_fine (up3 m 0 0 2 0) (m 0 0 2)).1, (x_X7_fine (up3 m 0 0 2 0) (m 0 0 2)).2)
theorem xe_X7_clearText : ∃ f, f = y_X7_clearText := ⟨y_X7_clearText, rfl⟩
noncomputable def x_X7_clearText := Classical.choose xe_X7_clearText
theorem x_X7_clearText_eq : x_X7_clearText = y_X7_clearText := Classical.choose_spec xe_X7_clearText
noncomputable def y_X7_append (m : Mem) (p1 : Int32) : Mem × Int32 := (if (x_X7_in ((p1).toInt64) 0 127) = true then (if (m 0 0 2) = 90 then ((x_X7_throwing m 2).1, (x_X7_throwing m 2).2) else ((x_X7_fine (up3 (up3 m 5 0 (ix (m 0 0 2)) p1) 0 0 2 (((up3 m 5 0 (ix (m 0 0 2)) p1) 0 0 2) + 1)) ((up3 (up3 m 5 0 (ix (m 0 0 2)) p1) 0 0 2 (((up3 m 5 0 (ix (m 0 0 2)) p1) 0 0 2) + 1)) 0 0 2)).1, (x_X7_fine (up3 (up3 m 5 0 (ix (m 0 0 2)) p1) 0 0 2 (((up3 m 5 0 (ix (m 0 0 2)) p1) 0 0 2) + 1)) ((up3 (up3 m 5 0 (ix (m 0 0 2)) p1) 0 0 2 (((up3 m 5 0 (ix (m 0 0 2)) p1) 0 0 2) + 1)) 0 0 2)).2)) else ((x_X7_throwing m 1).1, (x_X7_throwing m 1).2))
theorem xe_X7_append : ∃ f, f = y_X7_append := ⟨y_X7_append, rfl⟩
noncomputable def x_X7_append := Classical.choose xe_X7_append
theorem x_X7_append_eq : x_X7_append = y_X7_append := Classical.choose_spec xe_X7_append
noncomputable def y_X7_begin (m : Mem) (p1 : Int32) (p2 : Int32) : Mem × Int32 := (if (x_X7_in ((p1).toInt64) 1 6) = true then (if (x_X7_in ((p2).toInt64) 1 3) = true then ((x_X7_fine (x_X7_begins (x_X7_save m) p1 p2) ((x_X7_save m) 1 0 3)).1, (x_X7_fine (x_X7_begins (x_X7_save m) p1 p2) ((x_X7_save m) 1 0 3)).2) else ((x_X7_throwing m 1).1, (x_X7_throwing m 1).2)) else ((x_X7_throwing m 1).1, (x_X7_throwing m 1).2))
theorem xe_X7_begin : ∃ f, f = y_X7_begin := ⟨y_X7_begin, rfl⟩
noncomputable def x_X7_begin := Classical.choose xe_X7_begin
theorem x_X7_begin_eq : x_X7_begin = y_X7_begin := Classical.choose_spec xe_X7_begin
