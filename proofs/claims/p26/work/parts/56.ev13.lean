theorem sub64 : ∀ n : Nat, n < 31 → ((nI n).toInt64 - 1).toInt = (n : Int) - 1 := by decide +kernel
theorem in_lt {x y : Int32} {k : Nat} (hy : VN k y) (hk : k < 31) (h : x_X7_in x.toInt64 0 (y.toInt64 - 1) = true) : x = nI (ix x) ∧ ix x < ix y := by
  obtain ⟨h1, h2⟩ := in_of h
  have b := hy.2
  rw [hy.1] at h2
  rw [Int64.lt_iff_toInt_lt, Int32.toInt_toInt64] at h1 h2
  rw [sub64 _ (by omega)] at h2
  have z : (0 : Int64).toInt = 0 := by decide
  have hx : ¬ x < 0 := fun q => by
    rw [Int32.lt_iff_toInt_lt] at q
    have z2 : (0 : Int32).toInt = 0 := by decide
    omega
  have e := ix_eq hx
  refine ⟨e, ?_⟩
  show x.toInt.toNat < ix y
  omega
theorem is_S {m : Mem} {x : Int32} (hF : MK m) (h : x_X7_isStand m x = true) : x = nI (ix x) ∧ ix x < ix (m 1 0 0) := by
  rw [x_X7_isStand_eq] at h
  exact in_lt hF.ns (by decide) h
theorem is_T {m : Mem} {x : Int32} (hF : MK m) (h : x_X7_isTug m x = true) : x = nI (ix x) ∧ ix x < ix (m 1 0 1) := by
  rw [x_X7_isTug_eq] at h
  exact in_lt hF.nt (by decide) h
theorem is_P {m : Mem} {x : Int32} (hF : MK m) (h : x_X7_isPlane m x = true) : x = nI (ix x) ∧ ix x < ix (m 1 0 2) := by
  rw [x_X7_isPlane_eq] at h
  exact in_lt hF.na (by decide) h
noncomputable def y_X7_setSpan (m : Mem) (p1 : Int32) (p2 : Int32) : Mem × Int32 := (if (x_X7_isStand m p1) = true then (if (x_X7_in ((p2).toInt64) 1 4) = true then ((x_X7_fine (up3 (x_X7_save m) 1 0 (8 + 2 * (ix p1) + 0) p2) ((x_X7_save m) 1 0 (8 + 2 * (ix p1) + 0))).1, (x_X7_fine (up3 (x_X7_save m) 1 0 (8 + 2 * (ix p1) + 0) p2) ((x_X7_save m) 1 0 (8 + 2 * (ix p1) + 0))).2) else ((x_X7_throwing m 2).1, (x_X7_throwing m 2).2)) else ((x_X7_throwing m 1).1, (x_X7_throwing m 1).2))
theorem xe_X7_setSpan : ∃ f, f = y_X7_setSpan := ⟨y_X7_setSpan, rfl⟩
noncomputable def x_X7_setSpan := Classical.choose xe_X7_setSpan
theorem x_X7_setSpan_eq : x_X7_setSpan = y_X7_setSpan := Classical.choose_spec xe_X7_setSpan
noncomputable def y_X7_setStrength (m : Mem) (p1 : Int32) (p2 : Int32) : Mem × Int32 := (if (x_X7_isTug m p1) = true then (if (x_X7_in ((p2).toInt64) 1 3) = true then ((x_X7_fine (up3 (x_X7_save m) 1 0 (20 + 5 * (ix p1) + 0) p2) ((x_X7_save m) 1 0 (20 + 5 * (ix p1) + 0))).1, (x_X7_fine (up3 (x_X7_save m) 1 0 (20 + 5 * (ix p1) + 0) p2) ((x_X7_save m) 1 0 (20 + 5 * (ix p1) + 0))).2) else ((x_X7_throwing m 2).1, (x_X7_throwing m 2).2)) else ((x_X7_throwing m 1).1, (x_X7_throwing m 1).2))
theorem xe_X7_setStrength : ∃ f, f = y_X7_setStrength := ⟨y_X7_setStrength, rfl⟩
noncomputable def x_X7_setStrength := Classical.choose xe_X7_setStrength
theorem x_X7_setStrength_eq : x_X7_setStrength = y_X7_setStrength := Classical.choose_spec xe_X7_setStrength
noncomputable def y_X7_setLeaves (m : Mem) (p1 : Int32) (p2 : Int32) : Mem × Int32 := (if (x_X7_isPlane m p1) = true then (if (x_X7_of m (ix p1) 2) < p2 then (if 1999 < p2 then ((x_X7_throwing m 2).1, (x_X7_throwing m 2).2) else (if (x_X7_of m (ix p1) 5) < 4 then ((x_X7_fine (up3 (x_X7_save m) 1 0 (35 + 10 * (ix p1) + 3) p2) (x_X7_of (x_X7_save m) (ix p1) 3)).1, (x_X7_fine (up3 (x_X7_save m) 1 0 (35 + 10 * (ix p1) + 3) p2) (x_X7_of (x_X7_save m) (ix p1) 3)).2) else ((x_X7_throwing m 3).1, (x_X7_throwing m 3).2))) else ((x_X7_throwing m 2).1, (x_X7_throwing m 2).2)) else ((x_X7_throwing m 1).1, (x_X7_throwing m 1).2))
theorem xe_X7_setLeaves : ∃ f, f = y_X7_setLeaves := ⟨y_X7_setLeaves, rfl⟩
noncomputable def x_X7_setLeaves := Classical.choose xe_X7_setLeaves
theorem x_X7_setLeaves_eq : x_X7_setLeaves = y_X7_setLeaves := Classical.choose_spec xe_X7_setLeaves
noncomputable def y_X7_aircraft (m : Mem) (p1 : Int32) (p2 : Int32) : Mem × Int32 := (if (x_X7_isPlane m p1) = true then (if (x_X7_in ((p2).toInt64) 0 9) = true then ((x_X7_fine m (x_X7_of m (ix p1) (ix p2))).1, (x_X7_fine m (x_X7_of m (ix p1) (ix p2))).2) else ((x_X7_throwing m 2).1, (x_X7_throwing m 2).2)) else ((x_X7_throwing m 1).1, (x_X7_throwing m 1).2))
theorem xe_X7_aircraft : ∃ f, f = y_X7_aircraft := ⟨y_X7_aircraft, rfl⟩
noncomputable def x_X7_aircraft := Classical.choose xe_X7_aircraft
theorem x_X7_aircraft_eq : x_X7_aircraft = y_X7_aircraft := Classical.choose_spec xe_X7_aircraft
noncomputable def y_X7_stand (m : Mem) (p1 : Int32) (p2 : Int32) : Mem × Int32 := (if (x_X7_isStand m p1) = true then (if (x_X7_in ((p2).toInt64) 0 3) = true then ((x_X7_fine m (x_X7_standOf m (ix p1) p2)).1, (x_X7_fine m (x_X7_standOf m (ix p1) p2)).2) else ((x_X7_throwing m 2).1, (x_X7_throwing m 2).2)) else ((x_X7_throwing m 1).1, (x_X7_throwing m 1).2))
theorem xe_X7_stand : ∃ f, f = y_X7_stand := ⟨y_X7_stand, rfl⟩
noncomputable def x_X7_stand := Classical.choose xe_X7_stand
theorem x_X7_stand_eq : x_X7_stand = y_X7_stand := Classical.choose_spec xe_X7_stand
noncomputable def y_X7_tug (m : Mem) (p1 : Int32) (p2 : Int32) : Mem × Int32 := (if (x_X7_isTug m p1) = true then (if (x_X7_in ((p2).toInt64) 0 4) = true then ((x_X7_fine m (m 1 0 (20 + 5 * (ix p1) + (ix p2)))).1, (x_X7_fine m (m 1 0 (20 + 5 * (ix p1) + (ix p2)))).2) else ((x_X7_throwing m 2).1, (x_X7_throwing m 2).2)) else ((x_X7_throwing m 1).1, (x_X7_throwing m 1).2))
theorem xe_X7_tug : ∃ f, f = y_X7_tug := ⟨y_X7_tug, rfl⟩
noncomputable def x_X7_tug := Classical.choose xe_X7_tug
theorem x_X7_tug_eq : x_X7_tug = y_X7_tug := Classical.choose_spec xe_X7_tug
noncomputable def y_X7_value (m : Mem) (p1 : Int32) : Mem × Int32 := (if (x_X7_in ((p1).toInt64) 0 15) = true then ((x_X7_fine m (x_X7_valueOf m (ix p1))).1, (x_X7_fine m (x_X7_valueOf m (ix p1))).2) else ((x_X7_throwing m 1).1, (x_X7_throwing m 1).2))
theorem xe_X7_value : ∃ f, f = y_X7_value := ⟨y_X7_value, rfl⟩
noncomputable def x_X7_value := Classical.choose xe_X7_value
theorem x_X7_value_eq : x_X7_value = y_X7_value := Classical.choose_spec xe_X7_value
noncomputable def y_X7_why (m : Mem) (p1 : Int32) : Mem × Int32 := (if (x_X7_isPlane m p1) = true then ((x_X7_fine m (x_X7_whyNot m (ix p1))).1, (x_X7_fine m (x_X7_whyNot m (ix p1))).2) else ((x_X7_throwing m 1).1, (x_X7_throwing m 1).2))
theorem xe_X7_why : ∃ f, f = y_X7_why := ⟨y_X7_why, rfl⟩
noncomputable def x_X7_why := Classical.choose xe_X7_why
theorem x_X7_why_eq : x_X7_why = y_X7_why := Classical.choose_spec xe_X7_why
noncomputable def y_X7_event (m : Mem) (p1 : Int32) (p2 : Int32) : Mem × Int32 := (if (x_X7_in ((p1).toInt64) 0 (((m 1 0 7)).toInt64 - 1)) = true then (if (x_X7_in ((p2).toInt64) 0 2) = true then ((x_X7_fine m (m 1 0 ((155 + (3 * (ix p1))) + (ix p2)))).1, (x_X7_fine m (m 1 0 ((155 + (3 * (ix p1))) + (ix p2)))).2) else ((x_X7_throwing m 2).1, (x_X7_throwing m 2).2)) else ((x_X7_throwing m 1).1, (x_X7_throwing m 1).2))
theorem xe_X7_event : ∃ f, f = y_X7_event := ⟨y_X7_event, rfl⟩
noncomputable def x_X7_event := Classical.choose xe_X7_event
theorem x_X7_event_eq : x_X7_event = y_X7_event := Classical.choose_spec xe_X7_event
