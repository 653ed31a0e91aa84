/-! tugs that are not there, through a minute -/
def ZQ (n z : Nat) : Prop := z = 1 ∨ (20 ≤ z ∧ z < 35 ∧ 3 ≤ (z - 20) % 5 ∧ n ≤ (z - 20) / 5)
section ZTS
variable {μ m : Mem} {n z : Nat}
theorem zt_writes {p1 p2 : Int32} (h : ZQ n z) : x_X7_writes μ p1 p2 1 0 z = μ 1 0 z := by
  unfold ZQ at h
  rw [wr_at, if_neg (by omega), if_neg (by omega), if_neg (by omega), if_neg (by omega), if_neg (by omega)]
theorem zt_buses {q : Nat} (h : ZQ n z) : x_X7_buses μ q 1 0 z = μ 1 0 z := by
  unfold ZQ at h
  rw [x_X7_buses_eq]
  unfold y_X7_buses
  rw [up3_k (by omega), up3_k (by omega)]
theorem zt_takes {t w : Nat} {p2 p3 : Int32} (h : ZQ n z) (ht : t < n) (hw : w = 3 ∨ w = 4) : x_X7_takes μ t p2 p3 w 1 0 z = μ 1 0 z := by
  unfold ZQ at h
  rw [x_X7_takes_eq]
  unfold y_X7_takes
  rw [up3_k (by omega), up3_k (by omega), up3_k (by omega)]
theorem tf_bd {q : Nat} (h0 : 0 < ix (μ 1 0 1)) (h3 : ix (μ 1 0 1) ≤ 3) : ix (x_X7_tugFor μ q) < ix (μ 1 0 1) := by
  rw [x_X7_tugFor_eq]
  unfold y_X7_tugFor
  rw [lf_X7_tugFor_4_eq]
  unfold ly_X7_tugFor_4
  refine itr_inv (n := ix (μ 1 0 1)) (s := (-1 : Int32)) (P := fun _ (c : Int32) => ix c < ix (μ 1 0 1)) (fun jz s => bd_X7_tugFor_4 μ q jz s) (fun j c hj g => ?_) (by rw [show ix (-1 : Int32) = 0 by decide +kernel]; exact h0)
  show ix (bd_X7_tugFor_4 μ q j c) < _
  unfold bd_X7_tugFor_4
  have e : ix (nI j) = j := ix_nI (by omega)
  split
  · exact g
  · split
    · split
      · rw [e]; exact hj
      · split
        · rw [e]; exact hj
        · exact g
    · exact g
theorem zt_pushes {q : Nat} (h : ZQ n z) (hc : ix (μ 1 0 1) = n) (h0 : 0 < n) (h3 : n ≤ 3) : x_X7_pushes μ q 1 0 z = μ 1 0 z := by
  have hb : x_X7_buses μ q 1 0 1 = μ 1 0 1 := zt_buses (n := n) (Or.inl rfl)
  have h' := h
  unfold ZQ at h'
  rw [x_X7_pushes_eq]
  unfold y_X7_pushes
  split
  · have b := tf_bd (μ := x_X7_buses μ q) (q := q) (by rw [hb]; omega) (by rw [hb]; omega)
    rw [hb, hc] at b
    rw [zt_writes h, up3_k (by omega), up3_k (by omega), zt_takes h b (Or.inl rfl), zt_buses h]
  · have b := tf_bd (μ := μ) (q := q) (by omega) (by omega)
    rw [hc] at b
    rw [zt_writes h, up3_k (by omega), up3_k (by omega), zt_takes h b (Or.inl rfl)]
theorem zt_tugs (h : ZQ n z) : x_X7_tugs μ 1 0 z = μ 1 0 z := by
  have h' := h
  unfold ZQ at h'
  rw [x_X7_tugs_eq]
  unfold y_X7_tugs
  rw [lf_X7_tugs_2_eq]
  unfold ly_X7_tugs_2
  refine itr_inv (P := fun (_ : Nat) (s : Mem) => s 1 0 z = μ 1 0 z) _ (fun j s _ g => ?_) rfl
  show bd_X7_tugs_2 j s 1 0 z = μ 1 0 z
  unfold bd_X7_tugs_2
  repeat' split
  all_goals
    repeat (first | rw [zt_writes h] | rw [up3_k (by omega)])
    exact g
theorem zt_arrivals (h : ZQ n z) : x_X7_arrivals μ 1 0 z = μ 1 0 z := by
  have h' := h
  unfold ZQ at h'
  rw [x_X7_arrivals_eq]
  unfold y_X7_arrivals
  rw [lf_X7_arrivals_2_eq]
  unfold ly_X7_arrivals_2
  refine itr_inv (P := fun (_ : Nat) (s : Mem) => s 1 0 z = μ 1 0 z) _ (fun j s _ g => ?_) rfl
  show bd_X7_arrivals_2 j s 1 0 z = μ 1 0 z
  unfold bd_X7_arrivals_2
  repeat' split
  all_goals
    repeat (first | rw [zt_writes h] | rw [zt_buses h] | rw [up3_k (by omega)])
    exact g
theorem zt_towing (hc : ix (μ 1 0 1) = n) (h0 : 0 < n) (h3 : n ≤ 3) : ∀ z, ZQ n z → x_X7_towing μ 1 0 z = μ 1 0 z := by
  rw [x_X7_towing_eq]
  unfold y_X7_towing
  rw [lf_X7_towing_2_eq]
  unfold ly_X7_towing_2
  refine itr_inv (P := fun (_ : Nat) (s : Mem) => ∀ z, ZQ n z → s 1 0 z = μ 1 0 z) _ (fun j s _ g z h => ?_) (fun _ _ => rfl)
  have h' := h
  unfold ZQ at h'
  have g1 := g 1 (Or.inl rfl)
  have b := tf_bd (μ := s) (q := j) (by rw [g1]; omega) (by rw [g1]; omega)
  rw [g1, hc] at b
  show bd_X7_towing_2 j s 1 0 z = μ 1 0 z
  unfold bd_X7_towing_2
  repeat' split
  all_goals
    repeat (first | rw [zt_writes h] | rw [zt_takes h b (Or.inr rfl)] | rw [up3_k (by omega)])
    exact g z h
theorem zt_pushbacks (hc : ix (μ 1 0 1) = n) (h0 : 0 < n) (h3 : n ≤ 3) : ∀ z, ZQ n z → x_X7_pushbacks μ 1 0 z = μ 1 0 z := by
  rw [x_X7_pushbacks_eq]
  unfold y_X7_pushbacks
  have e2 : ∀ N, lf_X7_pushbacks_2 N μ 1 = μ 1 := by
    intro N
    rw [lf_X7_pushbacks_2_eq]
    unfold ly_X7_pushbacks_2
    exact itr_inv (P := fun (_ : Nat) (s : Mem) => s 1 = μ 1) _ (fun j s _ g => (up3_fam (by decide)).trans g) rfl
  rw [lf_X7_pushbacks_23_eq]
  unfold ly_X7_pushbacks_23
  refine (itr_inv (P := fun (_ : Nat) (s : Mem × Int32) => ∀ z, ZQ n z → s.1 1 0 z = μ 1 0 z) _ (fun j s _ g z h => ?_) (fun z _ => by show lf_X7_pushbacks_2 12 μ 1 0 z = _; rw [e2]))
  have g1 := g 1 (Or.inl rfl)
  show (bd_X7_pushbacks_23 j s.1 s.2).1 1 0 z = μ 1 0 z
  unfold bd_X7_pushbacks_23
  repeat' split
  all_goals
    dsimp only
    repeat (first | rw [zt_pushes h (by rw [up3_ne (by simp), g1]; exact hc) h0 h3] | rw [up3_ne (by simp)])
    exact g z h
theorem zt_minute (hc : ix (μ 1 0 1) = n) (h0 : 0 < n) (h3 : n ≤ 3) (h6 : ix (μ 1 0 0) ≤ 6) : ∀ z, ZQ n z → x_X7_minute μ 1 0 z = μ 1 0 z := fun z h => by
  have h' := h
  unfold ZQ at h'
  have a1 : x_X7_arrivals (x_X7_tugs μ) 1 0 1 = μ 1 0 1 := by rw [zt_arrivals (n := n) (Or.inl rfl), zt_tugs (n := n) (Or.inl rfl)]
  have a2 : x_X7_pushbacks (x_X7_arrivals (x_X7_tugs μ)) 1 0 1 = μ 1 0 1 := by rw [zt_pushbacks (n := n) (by rw [a1]; exact hc) h0 h3 1 (Or.inl rfl), a1]
  have e : x_X7_towing (x_X7_pushbacks (x_X7_arrivals (x_X7_tugs μ))) 1 0 z = μ 1 0 z := by
    rw [zt_towing (n := n) (by rw [a2]; exact hc) h0 h3 z h, zt_pushbacks (n := n) (by rw [a1]; exact hc) h0 h3 z h, zt_arrivals h, zt_tugs h]
  rw [x_X7_minute_eq]
  unfold y_X7_minute
  rw [up3_k (by omega)]
  generalize x_X7_towing (x_X7_pushbacks (x_X7_arrivals (x_X7_tugs μ))) = ν at e ⊢
  rw [lf_X7_minute_18_eq]
  unfold ly_X7_minute_18
  rw [← e]
  refine itr_inv (n := ix (μ 1 0 0)) (s := ν) (P := fun _ (s : Mem) => s 1 0 z = ν 1 0 z) (fun jz s => bd_X7_minute_18 jz s) (fun i s hi g => ?_) rfl
  show bd_X7_minute_18 i s 1 0 z = ν 1 0 z
  unfold bd_X7_minute_18
  split
  · exact g
  · rw [up3_k (by omega), up3_k (by omega)]
    exact g
/-! so many minutes of a field -/
theorem mn_f {k f : Nat} (h : f ≠ 1) (h4 : f ≠ 4) : MN k μ f = μ f := itr_inv (n := k) (s := μ) (P := fun _ (s : Mem) => s f = μ f) (fun _ s => x_X7_minute s) (fun j s _ g => (fr_minute h h4).trans g) rfl
theorem FR.mins {B : Nat} (hF : FR m (μ 1 0)) (hV : VN B (m 4 0 0)) : ∀ k, B + 39 * k + 39 < 2 ^ 31 → ix (m 0 0 3) + k ≤ 10000 → FR (MK1 k m) (MN k μ 1 0) ∧ VN (B + 39 * k) (MK1 k m 4 0 0)
  | 0, _, _ => ⟨hF, hV⟩
  | k + 1, hB, hk => by
    obtain ⟨f, v⟩ := FR.mins hF hV k (by omega) (by omega)
    have r : RB (B + 39 * k) (MK1 k m) (MN k μ) := ⟨f.rr, v⟩
    have t0 := (mk_ok (k := k) ⟨hF.rr, hV⟩ (by omega) (by omega)).2.2
    have o := m1_ok r (by omega) (by rw [t0]; omega)
    have q3 : x_X7_minute (MN k μ) 1 0 3 = MN k μ 1 0 3 + 1 := by
      rw [← o.1.1.1.c (k := 3) (by decide), o.2.2, f.1.c (k := 3) (by decide)]
    have e3 : MK1 k m 0 0 3 = MN k μ 1 0 3 := f.1.c (k := 3) (by decide)
    have um := um_minute (μ := MN k μ) f.2.2.2.1 q3 (by rw [← e3, t0]; omega)
    have mk := (fw_X7_minute (mw_self (B := 0) f.mk) (by decide)).1
    have n1 := f.2.2.1.2.1
    have b1 := f.2.2.2.2.2.1.2
    have b0 := f.2.2.2.2.1.2
    have n0 : 0 < ix (MN k μ 1 0 1) := by
      rcases Nat.eq_zero_or_pos (ix (MN k μ 1 0 1)) with z | z
      · exact absurd (by rw [f.2.2.2.2.2.1.1, z]; rfl) n1
      · exact z
    have zt := zt_minute (μ := MN k μ) rfl n0 b1 b0
    have t1 := (mk_ok (k := k + 1) ⟨hF.rr, hV⟩ (by omega) (by omega)).2.2
    rw [mk1_s] at t1
    rw [mk1_s, mn_s]
    refine ⟨⟨o.1.1.1, o.1.1.2, ⟨by rw [t1]; omega, by rw [zt 1 (Or.inl rfl)]; exact n1, fun t ht l => ?_⟩, um, mk⟩, o.1.2⟩
    rw [zt 1 (Or.inl rfl)] at l
    rw [zt _ (Or.inr ⟨by omega, by omega, by omega, by omega⟩), zt _ (Or.inr ⟨by omega, by omega, by omega, by omega⟩)]
    exact f.2.2.1.2.2 t ht l
end ZTS
