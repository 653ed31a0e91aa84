/-! the timetable's read -/
theorem r1_readAircraft {m : Mem} {r : Nat} (h0 : VN 90 (m 0 0 0)) (h2 : VN 90 (m 0 0 2)) (hr : r < 12) : PW 0 m (x_X4_readAircraft m r).1 := fw_X4_readAircraft (r := r) rfl (PW.self (B := 0) h0 h2) (by decide) hr
noncomputable def rd_k : Nat → Nat → Mem → Mem × Int32
  | 0, _, m => (m, if m 0 0 2 < m 0 0 0 then m 0 0 2 else -1)
  | k + 1, j, m => if m 0 0 2 < m 0 0 0 then (if (x_X4_readAircraft m j).2 = -1 then rd_k k (j + 1) (up3 (x_X4_readAircraft m j).1 0 0 1 ((x_X4_readAircraft m j).1 0 0 1 + 1)) else x_X4_readAircraft m j) else (m, -1)
theorem rd_ok : ∀ (k j : Nat) (m : Mem), j + k = 12 → VN 90 (m 0 0 0) → VN 90 (m 0 0 2) → m 0 0 1 = nI j → VN 90 ((rd_k k j m).1 0 0 0) ∧ VN 12 ((rd_k k j m).1 0 0 1) ∧ (rd_k k j m).1 0 0 0 = m 0 0 0 ∧ (rd_k k j m).1 1 = m 1 := by
  have vj : ∀ j, j ≤ 12 → ∀ x : Int32, x = nI j → VN 12 x := fun j hj x e => by
    subst e
    unfold VN
    rw [ix_nI (by omega)]
    exact ⟨rfl, hj⟩
  intro k
  induction k with
  | zero =>
    intro j m hj h0 h2 h1
    exact ⟨h0, vj j (by omega) _ h1, rfl, rfl⟩
  | succ k ih =>
    intro j m hj h0 h2 h1
    have w := r1_readAircraft h0 h2 (show j < 12 by omega)
    have e0 : rd_k (k + 1) j m = if m 0 0 2 < m 0 0 0 then (if (x_X4_readAircraft m j).2 = -1 then rd_k k (j + 1) (up3 (x_X4_readAircraft m j).1 0 0 1 ((x_X4_readAircraft m j).1 0 0 1 + 1)) else x_X4_readAircraft m j) else (m, -1) := rfl
    rw [e0]
    split
    · split
      · have q := ih (j + 1) (up3 (x_X4_readAircraft m j).1 0 0 1 ((x_X4_readAircraft m j).1 0 0 1 + 1)) (by omega) w.2.1.1 w.2.1.2 (by rw [up3_self, w.2.2.1.2, h1, nI_1])
        refine ⟨q.1, q.2.1, q.2.2.1.trans ?_, q.2.2.2.trans ?_⟩
        · exact w.2.2.1.1
        · exact w.2.2.2
      · exact ⟨w.2.1.1, vj j (by omega) _ (w.2.2.1.2.trans h1), w.2.2.1.1, w.2.2.2⟩
    · exact ⟨h0, vj j (by omega) _ h1, rfl, rfl⟩
noncomputable def y_X4_read (m : Mem) : Mem × Int32 := rd_k 12 0 (up3 (up3 m 0 0 2 0) 0 0 1 0)
theorem xe_X4_read : ∃ f, f = y_X4_read := ⟨y_X4_read, rfl⟩
noncomputable def x_X4_read := Classical.choose xe_X4_read
theorem x_X4_read_eq : x_X4_read = y_X4_read := Classical.choose_spec xe_X4_read
theorem fw_X4_read {m : Mem} (hT : VN 90 (m 0 0 0)) : VN 90 ((x_X4_read m).1 0 0 0) ∧ VN 12 ((x_X4_read m).1 0 0 1) ∧ (x_X4_read m).1 0 0 0 = m 0 0 0 ∧ (x_X4_read m).1 1 = m 1 := by
  rw [x_X4_read_eq]
  exact rd_ok 12 0 _ rfl hT vn_0 rfl
/-! what the model's parse stands on -/
theorem tu_self {m : Mem} {B : Nat} (hT : VN 90 (m 0 0 2)) : TU B m m := ⟨rfl, hT, rfl, rfl, fun _ _ _ => rfl⟩
theorem tx_w {m : Mem} (hT : VN 90 (m 0 0 2)) : TW 0 m (x_X7_readsText m).1 := fw_X7_readsText (tu_self (B := 0) hT) (by decide)
theorem tx_1 {m : Mem} (hT : VN 90 (m 0 0 2)) : (x_X7_readsText m).1 1 = m 1 := (tx_w hT).2.2.2.2 1 (by decide) (by decide)
theorem mw_readsText {B : Nat} {m0 m : Mem} (hW : MW B m0 m) (hT : VN 90 (m 0 0 2)) : MW B m0 (x_X7_readsText m).1 := hW.congr (fun k _ => congrFun (congrFun (tx_1 hT) 0) k)
theorem tx_s {m : Mem} (hT : VN 90 (m 0 0 2)) (hs : VN 4 (m 0 0 0)) : VN 4 ((x_X7_readsText m).1 0 0 0) := by
  rw [(tx_w hT).2.2.2.1]
  exact hs
theorem tx_r {m : Mem} (hT : VN 90 (m 0 0 2)) : VN 12 ((x_X7_readsText m).1 0 0 4) := (tx_w hT).2.1.2.2
theorem mw_self {m : Mem} {B : Nat} (h : MK m) : MW B m m := ⟨h, rfl, fun _ _ => rfl⟩
theorem ad_f {m : Mem} {f : Nat} {p1 p2 p3 p4 p5 : Int32} (h : f ≠ 1) : x_X7_adds m p1 p2 p3 p4 p5 f = m f := by
  rw [x_X7_adds_eq]
  unfold y_X7_adds
  repeat rw [up3_fam h]
theorem cl_f {m : Mem} {f : Nat} (h : f ≠ 1) : x_X7_clears m f = m f := by
  rw [x_X7_clears_eq]
  unfold y_X7_clears
  have e1 : ∀ N s, lf_X7_clears_115 N s f = s f := fun N s => by
    rw [lf_X7_clears_115_eq]
    exact itr_inv (P := fun (_ : Nat) (t : Mem) => t f = s f) _ (fun j t _ g => (up3_fam h).trans g) rfl
  have e2 : ∀ N s, lf_X7_clears_57 N s f = s f := fun N s => by
    rw [lf_X7_clears_57_eq]
    exact itr_inv (P := fun (_ : Nat) (t : Mem) => t f = s f) _ (fun j t _ g => ((up3_fam h).trans ((up3_fam h).trans ((up3_fam h).trans (up3_fam h)))).trans g) rfl
  have e3 : ∀ N s, lf_X7_clears_32 N s f = s f := fun N s => by
    rw [lf_X7_clears_32_eq]
    exact itr_inv (P := fun (_ : Nat) (t : Mem) => t f = s f) _ (fun j t _ g => (up3_fam h).trans g) rfl
  rw [e1, e2, e3, up3_fam h, up3_fam h, up3_fam h, up3_fam h]
theorem sv_4 {m : Mem} : x_X7_save m 0 0 4 = m 0 0 4 := by
  have e1 : ∀ N s, lf_X7_save_51 N s 0 0 4 = s 0 0 4 := fun N s => by
    rw [lf_X7_save_51_eq]
    exact itr_inv (P := fun (_ : Nat) (t : Mem) => t 0 0 4 = s 0 0 4) _ (fun j t _ g => (congrFun (congrFun (up3_fam (by decide)) 0) 4).trans g) rfl
  have e2 : ∀ N s, lf_X7_save_10 N s 0 0 4 = s 0 0 4 := fun N s => by
    rw [lf_X7_save_10_eq]
    exact itr_inv (P := fun (_ : Nat) (t : Mem) => t 0 0 4 = s 0 0 4) _ (fun j t _ g => (congrFun (congrFun (up3_fam (by decide)) 0) 4).trans g) rfl
  rw [x_X7_save_eq]
  unfold y_X7_save
  split
  · rw [up3_ne (by decide), e1, up3_ne (by decide), e2]
  · rw [up3_ne (by decide), e1]
theorem tx_f {m : Mem} : x_X7_clears (x_X7_save m) 0 0 4 = m 0 0 4 := by
  rw [cl_f (by decide), sv_4]
theorem tx_k {m : Mem} {B : Nat} {m0 : Mem} (hW : MW B m0 m) (hT : VN 90 (m 0 0 2)) (hs : VN 4 (m 0 0 0)) (hB : B + 0 < 2147483648) : MK (x_X7_clears (x_X7_save (x_X7_readsText m).1)) ∧ x_X7_clears (x_X7_save (x_X7_readsText m).1) 1 0 2 = nI 0 := by
  have w := fw_X7_clears (fw_X7_save (mw_readsText hW hT) hB (tx_s hT hs)) hB
  refine ⟨w.1, (w.2.2 2 (by decide)).trans ?_⟩
  rw [up3_self]
  exact nI_0.symm
theorem tx_c {m : Mem} {j : Nat} (hK : MK m ∧ m 1 0 2 = nI j) (hj : j < 12) : ix (m 1 0 2) < 12 := by
  rw [hK.2, ix_nI (by omega)]
  exact hj
theorem ad_K {m : Mem} {j : Nat} {p1 p2 p3 p4 p5 : Int32} (hK : MK m ∧ m 1 0 2 = nI j) (hj : j < 12) : MK (x_X7_adds m p1 p2 p3 p4 p5) ∧ x_X7_adds m p1 p2 p3 p4 p5 1 0 2 = nI (j + 1) := by
  have w := fw_X7_adds (p1 := p1) (p2 := p2) (p3 := p3) (p4 := p4) (p5 := p5) (mw_self (B := 0) hK.1) (by decide) (tx_c hK hj)
  refine ⟨w.1, (w.2.2 2 (by decide)).trans ?_⟩
  rw [up3_self, hK.2, nI_1]
