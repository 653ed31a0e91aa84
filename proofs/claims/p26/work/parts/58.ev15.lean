theorem nI_divE {x y : Int32} {a b : Nat} (hx : x = nI a) (hy : y = nI b) (ha : a < 2147483648) (h0 : 0 < b) (hb : b < 2147483648) : x / y = nI (a / b) := by rw [hx, hy, pk_div ha h0 hb]
noncomputable def bd_X7_digest_17 (m : Mem) (j : Nat) (c1 : Int64) : Int64 := ((31 * c1) + ((x_X7_valueOf m j)).toInt64)
noncomputable def ly_X7_digest_17 (m : Mem) (N : Nat) (c1 : Int64) : Int64 := itr (fun jz s => bd_X7_digest_17 m jz s) N 0 c1
theorem le_X7_digest_17 : ∃ f, f = ly_X7_digest_17 := ⟨ly_X7_digest_17, rfl⟩
noncomputable def lf_X7_digest_17 := Classical.choose le_X7_digest_17
theorem lf_X7_digest_17_eq : lf_X7_digest_17 = ly_X7_digest_17 := Classical.choose_spec le_X7_digest_17
noncomputable def bd_X7_digest_44 (m : Mem) (j : Nat) (c1 : Int64) : Int64 := ((31 * c1) + ((x_X7_standOf m (j / 4) ((nI j) - (nI j) / 4 * 4))).toInt64)
noncomputable def ly_X7_digest_44 (m : Mem) (N : Nat) (c1 : Int64) : Int64 := itr (fun jz s => bd_X7_digest_44 m jz s) N 0 c1
theorem le_X7_digest_44 : ∃ f, f = ly_X7_digest_44 := ⟨ly_X7_digest_44, rfl⟩
noncomputable def lf_X7_digest_44 := Classical.choose le_X7_digest_44
theorem lf_X7_digest_44_eq : lf_X7_digest_44 = ly_X7_digest_44 := Classical.choose_spec le_X7_digest_44
noncomputable def bd_X7_digest_82 (m : Mem) (j : Nat) (c1 : Int64) : Int64 := ((31 * c1) + ((m 1 0 (20 + j))).toInt64)
noncomputable def ly_X7_digest_82 (m : Mem) (N : Nat) (c1 : Int64) : Int64 := itr (fun jz s => bd_X7_digest_82 m jz s) N 0 c1
theorem le_X7_digest_82 : ∃ f, f = ly_X7_digest_82 := ⟨ly_X7_digest_82, rfl⟩
noncomputable def lf_X7_digest_82 := Classical.choose le_X7_digest_82
theorem lf_X7_digest_82_eq : lf_X7_digest_82 = ly_X7_digest_82 := Classical.choose_spec le_X7_digest_82
noncomputable def bd_X7_digest_132 (m : Mem) (j : Nat) (jj : Nat) (c1 : Int64) : Int64 := ((31 * c1) + ((x_X7_of m j jj)).toInt64)
noncomputable def ly_X7_digest_132 (m : Mem) (j : Nat) (N : Nat) (c1 : Int64) : Int64 := itr (fun jz s => bd_X7_digest_132 m j jz s) N 0 c1
theorem le_X7_digest_132 : ∃ f, f = ly_X7_digest_132 := ⟨ly_X7_digest_132, rfl⟩
noncomputable def lf_X7_digest_132 := Classical.choose le_X7_digest_132
theorem lf_X7_digest_132_eq : lf_X7_digest_132 = ly_X7_digest_132 := Classical.choose_spec le_X7_digest_132
noncomputable def bd_X7_digest_119 (m : Mem) (j : Nat) (c1 : Int64) : Int64 := ((31 * (lf_X7_digest_132 m j 10 c1)) + ((x_X7_whyNot m j)).toInt64)
noncomputable def ly_X7_digest_119 (m : Mem) (N : Nat) (c1 : Int64) : Int64 := itr (fun jz s => bd_X7_digest_119 m jz s) N 0 c1
theorem le_X7_digest_119 : ∃ f, f = ly_X7_digest_119 := ⟨ly_X7_digest_119, rfl⟩
noncomputable def lf_X7_digest_119 := Classical.choose le_X7_digest_119
theorem lf_X7_digest_119_eq : lf_X7_digest_119 = ly_X7_digest_119 := Classical.choose_spec le_X7_digest_119
noncomputable def bd_X7_digest_181 (m : Mem) (j : Nat) (c1 : Int64) : Int64 := ((31 * c1) + ((m 1 0 (155 + j))).toInt64)
noncomputable def ly_X7_digest_181 (m : Mem) (N : Nat) (c1 : Int64) : Int64 := itr (fun jz s => bd_X7_digest_181 m jz s) N 0 c1
theorem le_X7_digest_181 : ∃ f, f = ly_X7_digest_181 := ⟨ly_X7_digest_181, rfl⟩
noncomputable def lf_X7_digest_181 := Classical.choose le_X7_digest_181
theorem lf_X7_digest_181_eq : lf_X7_digest_181 = ly_X7_digest_181 := Classical.choose_spec le_X7_digest_181
noncomputable def y_X7_digest (m : Mem) : Mem × Int64 := ((x_X7_minutesIf (up3 m 0 0 1 0)).1, ((31 * ((31 * (lf_X7_digest_181 (up3 m 0 0 1 0) (3 * ix (m 1 0 7)) (lf_X7_digest_119 (up3 m 0 0 1 0) (ix (m 1 0 2)) (lf_X7_digest_82 (up3 m 0 0 1 0) (5 * ix (m 1 0 1)) (lf_X7_digest_44 (up3 m 0 0 1 0) (4 * ix (m 1 0 0)) (lf_X7_digest_17 (up3 m 0 0 1 0) 16 (109771 + (((up3 m 0 0 1 0) 0 0 2)).toInt64))))))) + ((x_X7_minutesIf (up3 m 0 0 1 0)).2).toInt64)) + (((x_X7_minutesIf (up3 m 0 0 1 0)).1 0 0 0)).toInt64))
theorem xe_X7_digest : ∃ f, f = y_X7_digest := ⟨y_X7_digest, rfl⟩
noncomputable def x_X7_digest := Classical.choose xe_X7_digest
theorem x_X7_digest_eq : x_X7_digest = y_X7_digest := Classical.choose_spec xe_X7_digest
