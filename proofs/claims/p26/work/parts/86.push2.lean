/-! the order of the pushbacks -/
def ky (m : Mem) (p : Nat) : Nat := ix (m 3 p 3) * 12 + p
def CA (m : Mem) (p : Nat) : Prop := (m 3 p 5 = 1 ∨ m 3 p 5 = 2) ∧ ¬ m 0 0 3 < m 3 p 3
def LW (w : Int32) (lo : Nat) : Prop := (w = -1 ∧ lo = 0) ∨ ∃ k, w = nI k ∧ lo = k + 1 ∧ k < 30000
def acn (μ : Mem) : Nat → Nat
  | 0 => 0
  | N + 1 => acn μ N + if μ 4 0 N = 0 then 0 else 1
section PB2
variable {m μ : Mem} {B j p q k lo N : Nat} {w : Int32}
theorem ky_lt (h : IN m) (hp : p < ix (m 0 0 2)) : ky m p < 30000 ∧ p < 12 := by
  have a := (h.2.2.2 p hp).2.1.2
  have b := h.na.2
  unfold ky
  omega
theorem ky_inj (hp : p < 12) (hq : q < 12) (h : ky m p = ky m q) : p = q := by
  unfold ky at h
  omega
theorem tn_ky (h : IN m) (hp : p < ix (m 0 0 2)) : x_X1_turn m p = nI (ky m p) := by
  rw [x_X1_turn_eq]
  unfold y_X1_turn ky
  conv => lhs; rw [(h.2.2.2 p hp).2.1.1]
  rw [show (12 : Int32) = nI 12 from rfl, pk_mul, nI_add]
theorem lw_lt (h : LW w lo) (hk : k < 30000) : w < nI k ↔ lo ≤ k := by
  rcases h with ⟨e, e2⟩ | ⟨z, e, e2, hz⟩
  · subst e e2
    refine ⟨fun _ => Nat.zero_le _, fun _ => ?_⟩
    rw [Int32.lt_iff_toInt_lt, nI_toInt (by omega)]
    have : (-1 : Int32).toInt = -1 := by decide
    omega
  · subst e e2
    rw [nI_ltI (by omega) (by omega)]
    omega
theorem ca_bd {c : Int32} : (CA m p ∧ w < x_X1_turn m p → bd_X1_nextToLeave_4 m w p c = if c = -1 then nI p else if x_X1_turn m p < x_X1_turn m (ix c) then nI p else c) ∧ (¬ (CA m p ∧ w < x_X1_turn m p) → bd_X1_nextToLeave_4 m w p c = c) := by
  unfold bd_X1_nextToLeave_4 CA
  rw [x_X0_isOnStandOrBay_eq]
  unfold y_X0_isOnStandOrBay
  by_cases h1 : m 3 p 5 = 1
  · by_cases h2 : m 0 0 3 < m 3 p 3
    · simp [h1, h2]
    · by_cases h3 : w < x_X1_turn m p
      · simp [h1, h2, h3]
      · simp [h1, h2, h3]
  · by_cases h4 : m 3 p 5 = 2
    · by_cases h2 : m 0 0 3 < m 3 p 3
      · simp [h4, h2]
      · by_cases h3 : w < x_X1_turn m p
        · simp [h4, h2, h3]
        · simp [h4, h2, h3]
    · simp [h1, h4]
/-- the next to leave: the candidate of the lowest key from lo on -/
theorem nl_ok (h : IN m) (hw : LW w lo) : (x_X1_nextToLeave m w = -1 ∧ ∀ p, p < ix (m 0 0 2) → CA m p → ky m p < lo) ∨ ∃ p, p < ix (m 0 0 2) ∧ x_X1_nextToLeave m w = nI p ∧ CA m p ∧ lo ≤ ky m p ∧ ∀ q, q < ix (m 0 0 2) → CA m q → lo ≤ ky m q → ky m p ≤ ky m q := by
  have ba := h.na.2
  rw [x_X1_nextToLeave_eq]
  unfold y_X1_nextToLeave
  rw [lf_X1_nextToLeave_4_eq]
  unfold ly_X1_nextToLeave_4
  refine itr_inv (n := ix (m 0 0 2)) (s := (-1 : Int32)) (P := fun i c => (c = -1 ∧ ∀ p, p < i → CA m p → ky m p < lo) ∨ ∃ p, p < i ∧ c = nI p ∧ CA m p ∧ lo ≤ ky m p ∧ ∀ q, q < i → CA m q → lo ≤ ky m q → ky m p ≤ ky m q) (fun jz s => bd_X1_nextToLeave_4 m w jz s) (fun i c hi g => ?_) (Or.inl ⟨rfl, fun p hp => absurd hp (Nat.not_lt_zero p)⟩)
  have bi := (ky_lt h hi).1
  show (bd_X1_nextToLeave_4 m w i c = -1 ∧ _) ∨ ∃ p, p < i + 1 ∧ bd_X1_nextToLeave_4 m w i c = nI p ∧ _
  have bd := ca_bd (m := m) (w := w) (p := i) (c := c)
  rw [tn_ky h hi] at bd
  by_cases g1 : CA m i ∧ w < nI (ky m i)
  · have l1 := (lw_lt hw bi).mp g1.2
    rw [bd.1 g1]
    rcases g with ⟨e, g⟩ | ⟨p, hp, e, c1, c2, g⟩
    · rw [if_pos e]
      refine Or.inr ⟨i, Nat.lt_succ_self i, rfl, g1.1, l1, fun q hq cq lq => ?_⟩
      rcases Nat.lt_or_ge q i with z | z
      · exact absurd (g q z cq) (by omega)
      · have : q = i := by omega
        subst this
        exact Nat.le_refl _
    · rw [if_neg (by rw [e]; exact nI_n1 (by omega)), e, ix_nI (by omega), tn_ky h (show p < ix (m 0 0 2) by omega)]
      have bp := (ky_lt h (show p < ix (m 0 0 2) by omega)).1
      by_cases g2 : ky m i < ky m p
      · rw [if_pos ((nI_ltI (by omega) (by omega)).mpr g2)]
        refine Or.inr ⟨i, Nat.lt_succ_self i, rfl, g1.1, l1, fun q hq cq lq => ?_⟩
        rcases Nat.lt_or_ge q i with z | z
        · have := g q z cq lq
          omega
        · have : q = i := by omega
          subst this
          exact Nat.le_refl _
      · rw [if_neg (fun z => g2 ((nI_ltI (by omega) (by omega)).mp z))]
        refine Or.inr ⟨p, by omega, rfl, c1, c2, fun q hq cq lq => ?_⟩
        rcases Nat.lt_or_ge q i with z | z
        · exact g q z cq lq
        · have : q = i := by omega
          subst this
          omega
  · rw [bd.2 g1]
    have l1 : CA m i → ky m i < lo := fun z => by
      rcases Nat.lt_or_ge (ky m i) lo with y | y
      · exact y
      · exact absurd ⟨z, (lw_lt hw bi).mpr y⟩ g1
    rcases g with ⟨e, g⟩ | ⟨p, hp, e, c1, c2, g⟩
    · refine Or.inl ⟨e, fun q hq cq => ?_⟩
      rcases Nat.lt_or_ge q i with z | z
      · exact g q z cq
      · have : q = i := by omega
        subst this
        exact l1 cq
    · refine Or.inr ⟨p, by omega, e, c1, c2, fun q hq cq lq => ?_⟩
      rcases Nat.lt_or_ge q i with z | z
      · exact g q z cq lq
      · have : q = i := by omega
        subst this
        exact absurd (l1 cq) (by omega)
/-- the model's next: the unasked of the lowest key -/
theorem nx_ok (h : RR m μ) : (lf_X7_pushbacks_32 μ (ix (m 0 0 2)) (-1) = -1 ∧ ∀ p, p < ix (m 0 0 2) → ¬ μ 4 0 p = 0) ∨ ∃ p, p < ix (m 0 0 2) ∧ lf_X7_pushbacks_32 μ (ix (m 0 0 2)) (-1) = nI p ∧ μ 4 0 p = 0 ∧ ∀ q, q < ix (m 0 0 2) → μ 4 0 q = 0 → ky m p ≤ ky m q := by
  have ba := h.2.na.2
  rw [lf_X7_pushbacks_32_eq]
  unfold ly_X7_pushbacks_32
  refine itr_inv (n := ix (m 0 0 2)) (s := (-1 : Int32)) (P := fun i c => (c = -1 ∧ ∀ p, p < i → ¬ μ 4 0 p = 0) ∨ ∃ p, p < i ∧ c = nI p ∧ μ 4 0 p = 0 ∧ ∀ q, q < i → μ 4 0 q = 0 → ky m p ≤ ky m q) (fun jz s => bd_X7_pushbacks_32 μ jz s) (fun i c hi g => ?_) (Or.inl ⟨rfl, fun p hp => absurd hp (Nat.not_lt_zero p)⟩)
  show (bd_X7_pushbacks_32 μ i c = -1 ∧ _) ∨ ∃ p, p < i + 1 ∧ bd_X7_pushbacks_32 μ i c = nI p ∧ _
  unfold bd_X7_pushbacks_32
  by_cases g1 : μ 4 0 i = 0
  · rw [if_pos g1]
    rcases g with ⟨e, g⟩ | ⟨p, hp, e, c1, g⟩
    · rw [if_pos e]
      refine Or.inr ⟨i, Nat.lt_succ_self i, rfl, g1, fun q hq cq => ?_⟩
      rcases Nat.lt_or_ge q i with z | z
      · exact absurd cq (g q z)
      · have : q = i := by omega
        subst this
        exact Nat.le_refl _
    · have hp' : p < ix (m 0 0 2) := by omega
      rw [if_neg (by rw [e]; exact nI_n1 (by omega)), e, ix_nI (by omega), of_eq, of_eq, ← h.1.a (k := 3) hi (by decide), ← h.1.a (k := 3) hp' (by decide)]
      have vi := (h.2.2.2.2 i hi).2.1
      have vp := (h.2.2.2.2 p hp').2.1
      have bi := vi.2
      have bp := vp.2
      have lt : m 3 i 3 < m 3 p 3 ↔ ix (m 3 i 3) < ix (m 3 p 3) := by
        conv => lhs; rw [vi.1, vp.1]
        exact nI_ltI (by omega) (by omega)
      by_cases g2 : ix (m 3 i 3) < ix (m 3 p 3)
      · rw [if_pos (lt.mpr g2)]
        refine Or.inr ⟨i, Nat.lt_succ_self i, rfl, g1, fun q hq cq => ?_⟩
        rcases Nat.lt_or_ge q i with z | z
        · have := g q z cq
          unfold ky at this ⊢
          omega
        · have : q = i := by omega
          subst this
          exact Nat.le_refl _
      · rw [if_neg (fun z => g2 (lt.mp z))]
        refine Or.inr ⟨p, by omega, rfl, c1, fun q hq cq => ?_⟩
        rcases Nat.lt_or_ge q i with z | z
        · exact g q z cq
        · have : q = i := by omega
          subst this
          unfold ky
          omega
  · rw [if_neg g1]
    rcases g with ⟨e, g⟩ | ⟨p, hp, e, c1, g⟩
    · refine Or.inl ⟨e, fun q hq => ?_⟩
      rcases Nat.lt_or_ge q i with z | z
      · exact g q z
      · have : q = i := by omega
        subst this
        exact g1
    · refine Or.inr ⟨p, by omega, e, c1, fun q hq cq => ?_⟩
      rcases Nat.lt_or_ge q i with z | z
      · exact g q z cq
      · have : q = i := by omega
        subst this
        exact absurd cq g1
theorem acn_le : ∀ N, acn μ N ≤ N
  | 0 => Nat.le_refl 0
  | N + 1 => by
    have := acn_le N
    show acn μ N + (if μ 4 0 N = 0 then 0 else 1) ≤ N + 1
    split <;> omega
theorem acn_congr {μ' : Mem} (h : ∀ z, μ' 4 0 z = μ 4 0 z) : ∀ N, acn μ' N = acn μ N
  | 0 => rfl
  | N + 1 => by
    show acn μ' N + _ = acn μ N + _
    rw [acn_congr h N, h N]
theorem acn_up (hq : μ 4 0 p = 0) : ∀ N, p < N → acn (up3 μ 4 0 p 1) N = acn μ N + 1
  | 0, h => absurd h (Nat.not_lt_zero p)
  | N + 1, h => by
    show acn (up3 μ 4 0 p 1) N + (if up3 μ 4 0 p 1 4 0 N = 0 then 0 else 1) = acn μ N + (if μ 4 0 N = 0 then 0 else 1) + 1
    by_cases e : N = p
    · subst e
      have e2 : ∀ K, K ≤ N → acn (up3 μ 4 0 N 1) K = acn μ K := by
        intro K
        induction K with
        | zero => exact fun _ => rfl
        | succ K ih =>
          intro hK
          show acn (up3 μ 4 0 N 1) K + (if up3 μ 4 0 N 1 4 0 K = 0 then 0 else 1) = acn μ K + _
          rw [ih (by omega), up3_ne (by omega)]
      rw [e2 N (Nat.le_refl N), up3_self, if_pos hq, if_neg (by decide)]
    · rw [acn_up hq N (by omega), up3_ne (by omega)]
      omega
theorem RR.o4 {v : Int32} (h : RR m μ) : RR m (up3 μ 4 0 p v) := by
  refine ⟨?_, h.2⟩
  rw [show up3 μ 4 0 p v 1 0 = μ 1 0 from congrFun (up3_fam (by decide)) 0]
  exact h.1
/-- class and model, between two looks -/
def PI (B : Nat) (m0 : Mem) (k : Nat) (μ : Mem) (C : Mem × Int32) : Prop :=
  RB (B + k) C.1 μ ∧ C.1 0 = m0 0 ∧ (∃ lo, LW C.2 lo ∧ ∀ p, p < ix (m0 0 0 2) → CA C.1 p → (¬ μ 4 0 p = 0 ↔ ky C.1 p < lo)) ∧
  ix (m0 4 0 0) ≤ ix (C.1 4 0 0) ∧ (ix (C.1 4 0 0) = ix (m0 4 0 0) → C.1 = m0 ∧ ∀ p, p < ix (m0 0 0 2) → ¬ μ 4 0 p = 0 → ¬ x_X1_reason m0 p = 0)
theorem re_ca {m : Mem} {p : Nat} (h : x_X1_reason m p = 0) : CA m p := ⟨(re0 h).1, (re0 h).2.1⟩
/-- one look of the model -/
theorem pi_step {m0 : Mem} {C : Mem × Int32} (hB : B + 12 < 2 ^ 31) (hk : k < 12) (h : PI B m0 k μ C) (hp : p < ix (m0 0 0 2)) (hq : μ 4 0 p = 0) (hmin : ∀ q, q < ix (m0 0 0 2) → μ 4 0 q = 0 → ky C.1 p ≤ ky C.1 q) :
    (PI B m0 (k + 1) (if x_X7_whyNot (up3 μ 4 0 p 1) p = 0 then x_X7_pushes (up3 μ 4 0 p 1) p else up3 μ 4 0 p 1) (bd_X1_pushBack_4 j C.1 C.2)) ∨ PI B m0 k (if x_X7_whyNot (up3 μ 4 0 p 1) p = 0 then x_X7_pushes (up3 μ 4 0 p 1) p else up3 μ 4 0 p 1) C := by
  obtain ⟨⟨hR, hv⟩, h0, ⟨lo, hlo, hca⟩, hT, hN⟩ := h
  have hI := hR.2
  have ba := hI.na.2
  have hp' : p < ix (C.1 0 0 2) := by rw [h0]; exact hp
  have R1 : RR C.1 (up3 μ 4 0 p 1) := hR.o4
  have ask : ∀ z, ¬ up3 μ 4 0 p 1 4 0 z = 0 ↔ (¬ μ 4 0 z = 0 ∨ z = p) := fun z => by
    by_cases e : z = p
    · subst e
      rw [up3_self]
      exact ⟨fun _ => Or.inr rfl, fun _ => by decide⟩
    · rw [up3_ne (by omega)]
      exact ⟨fun y => Or.inl y, fun y => y.resolve_right e⟩
  have f4 : ∀ z, x_X7_pushes (up3 μ 4 0 p 1) p 4 0 z = up3 μ 4 0 p 1 4 0 z := fun z => by rw [fr_pushes (by decide)]
  rw [← wn_eq R1 hp']
  by_cases c : CA C.1 p
  · left
    have lp : lo ≤ ky C.1 p := by
      rcases Nat.lt_or_ge (ky C.1 p) lo with y | y
      · exact absurd hq ((hca p hp c).mpr y)
      · exact y
    have nl : x_X1_nextToLeave C.1 C.2 = nI p := by
      rcases nl_ok hI hlo with ⟨-, g⟩ | ⟨p', hp2, e, c', l', g⟩
      · exact absurd (g p hp' c) (by omega)
      · have a1 := g p hp' c lp
        have a2 : ky C.1 p ≤ ky C.1 p' := hmin p' (by rw [← h0]; exact hp2) (by
          rcases Classical.em (μ 4 0 p' = 0) with y | y
          · exact y
          · exact absurd ((hca p' (by rw [← h0]; exact hp2) c').mp y) (by omega))
        have := ky_inj (m := C.1) (ky_lt hI hp').2 (ky_lt hI hp2).2 (by omega)
        subst this
        exact e
    unfold bd_X1_pushBack_4
    rw [nl, if_neg (nI_n1 (by omega)), ix_nI (by omega)]
    by_cases g : x_X1_reason C.1 p = 0
    · rw [if_pos g, if_pos g]
      have fr := bp_fr g (show p < 12 by omega)
      have rb := bp_ok (B := B + k) ⟨R1, hv⟩ (by omega) hp' g
      have kyp : ∀ z, ky (x_X1_beginPush C.1 p) z = ky C.1 z := fun z => by
        unfold ky
        by_cases e : z = p
        · subst e
          rw [fr.2.2.1]
        · rw [fr.2.1 z e]
      have hT1 : ix (x_X1_beginPush C.1 p 4 0 0) = ix (C.1 4 0 0) + 1 := by
        rw [fr.2.2.2.2]
        exact (vn_s hv (by omega)).2
      refine ⟨rb, fr.1.trans h0, ⟨ky C.1 p + 1, Or.inr ⟨ky C.1 p, ?_, rfl, (ky_lt hI hp').1⟩, fun z hz cz => ?_⟩, by rw [hT1]; omega, fun z => ?_⟩
      · have : x_X1_turn (x_X1_beginPush C.1 p) p = nI (ky (x_X1_beginPush C.1 p) p) := tn_ky rb.1.2 (by rw [fr.1]; exact hp')
        rw [kyp] at this
        exact this
      · rw [f4, ask, kyp]
        have cz : CA (x_X1_beginPush C.1 p) z := cz
        have zp : z ≠ p := fun e => by
          subst e
          obtain ⟨c1 | c1, -⟩ := cz
          · rw [fr.2.2.2.1] at c1
            exact absurd c1 (by decide)
          · rw [fr.2.2.2.1] at c1
            exact absurd c1 (by decide)
        have cz' : CA C.1 z := by
          unfold CA at cz ⊢
          rw [fr.2.1 z zp, fr.1] at cz
          exact cz
        have i := hca z hz cz'
        constructor
        · rintro (y | y)
          · have := i.mp y
            omega
          · exact absurd y zp
        · intro y
          rcases Classical.em (μ 4 0 z = 0) with x | x
          · have a := hmin z hz x
            exact Or.inr (ky_inj (m := C.1) (ky_lt hI (show z < ix (C.1 0 0 2) by rw [h0]; exact hz)).2 (ky_lt hI hp').2 (by omega))
          · exact Or.inl x
      · have z2 : ix (x_X1_beginPush C.1 p 4 0 0) = ix (m0 4 0 0) := z
        omega
    · rw [if_neg g, if_neg g]
      refine ⟨⟨R1, hv.1, Nat.le_trans hv.2 (by omega)⟩, h0, ⟨ky C.1 p + 1, Or.inr ⟨ky C.1 p, tn_ky hI hp', rfl, (ky_lt hI hp').1⟩, fun z hz cz => ?_⟩, hT, fun z => ⟨(hN z).1, fun y hy hy2 => ?_⟩⟩
      · rw [ask]
        have i := hca z hz cz
        constructor
        · rintro (y | y)
          · have := i.mp y
            show ky C.1 z < ky C.1 p + 1
            omega
          · subst y
            exact Nat.lt_succ_self _
        · intro y
          have y' : ky C.1 z < ky C.1 p + 1 := y
          rcases Classical.em (μ 4 0 z = 0) with x | x
          · have a := hmin z hz x
            exact Or.inr (ky_inj (m := C.1) (ky_lt hI (show z < ix (C.1 0 0 2) by rw [h0]; exact hz)).2 (ky_lt hI hp').2 (by omega))
          · exact Or.inl x
      · rcases (ask y).mp hy2 with x | x
        · exact (hN z).2 y hy x
        · subst x
          have := (hN z).1
          rw [this] at g
          exact g
  · right
    have g : ¬ x_X1_reason C.1 p = 0 := fun z => c (re_ca z)
    rw [if_neg g]
    refine ⟨⟨R1, hv⟩, h0, ⟨lo, hlo, fun z hz cz => ?_⟩, hT, fun z => ⟨(hN z).1, fun y hy hy2 => ?_⟩⟩
    · rw [ask, ← hca z hz cz]
      refine ⟨fun y => y.resolve_right (fun e => c (e ▸ cz)), fun y => Or.inl y⟩
    · rcases (ask y).mp hy2 with x | x
      · exact (hN z).2 y hy x
      · subst x
        have := (hN z).1
        rw [this] at g
        exact g
theorem pb_ok (h : RB B m μ) (hB : B + 12 < 2 ^ 31) : RB (B + 12) (x_X1_pushBack m) (x_X7_pushbacks μ) ∧ x_X1_pushBack m 0 = m 0 ∧ ix (m 4 0 0) ≤ ix (x_X1_pushBack m 4 0 0) ∧ (ix (x_X1_pushBack m 4 0 0) = ix (m 4 0 0) → x_X1_pushBack m = m ∧ ∀ p, p < ix (m 0 0 2) → ¬ x_X1_reason m p = 0) := by
  have ba := h.1.2.na.2
  rw [x_X1_pushBack_eq, x_X7_pushbacks_eq]
  unfold y_X1_pushBack y_X7_pushbacks
  -- the model begins
  have c2 : ∀ f i z, lf_X7_pushbacks_2 12 μ f i z = if f = 4 ∧ i = 0 ∧ z < 12 then 0 else μ f i z := by
    rw [lf_X7_pushbacks_2_eq]
    unfold ly_X7_pushbacks_2
    refine itr_inv (n := 12) (s := μ) (P := fun j (s : Mem) => ∀ f i z, s f i z = if f = 4 ∧ i = 0 ∧ z < j then 0 else μ f i z) (fun jz s => bd_X7_pushbacks_2 jz s) (fun j s hj g => ?_) (fun f i z => by rw [if_neg (by omega)])
    intro f i z
    show up3 s 4 0 j 0 f i z = _
    by_cases e : f = 4 ∧ i = 0 ∧ z = j
    · obtain ⟨rfl, rfl, rfl⟩ := e
      rw [up3_self, if_pos ⟨rfl, rfl, Nat.lt_succ_self z⟩]
    · rw [up3_ne e, g]
      by_cases e2 : f = 4 ∧ i = 0 ∧ z < j
      · rw [if_pos e2, if_pos (by omega)]
      · rw [if_neg e2, if_neg (by omega)]
  have R0 : RR m (lf_X7_pushbacks_2 12 μ) := by
    refine ⟨?_, h.1.2⟩
    rw [show lf_X7_pushbacks_2 12 μ 1 0 = μ 1 0 from funext fun z => by rw [c2, if_neg (by omega)]]
    exact h.1.1
  have a0 : ∀ z, z < 12 → lf_X7_pushbacks_2 12 μ 4 0 z = 0 := fun z hz => by rw [c2, if_pos ⟨rfl, rfl, hz⟩]
  have ac0 : ∀ N, N ≤ 12 → acn (lf_X7_pushbacks_2 12 μ) N = 0 := by
    intro N
    induction N with
    | zero => exact fun _ => rfl
    | succ N ih =>
      intro hN
      show acn _ N + _ = 0
      rw [ih (by omega), a0 N (by omega), if_pos rfl]
  rw [lf_X7_pushbacks_23_eq]
  unfold ly_X7_pushbacks_23
  have fin := itr_inv (n := 13) (s := (lf_X7_pushbacks_2 12 μ, (0 : Int32))) (P := fun i (s : Mem × Int32) => ∃ k, k ≤ acn s.1 (ix (m 0 0 2)) ∧ PI B m k s.1 (itr (fun jz s => bd_X1_pushBack_4 jz s.1 s.2) k 0 (m, -1)) ∧ ((¬ s.2 = -1 ∧ acn s.1 (ix (m 0 0 2)) = i) ∨ (s.2 = -1 ∧ ∀ p, p < ix (m 0 0 2) → ¬ s.1 4 0 p = 0))) (fun jz s => bd_X7_pushbacks_23 jz s.1 s.2) (fun i s hi g => ?_) ?_
  · obtain ⟨k, hk, hP, hE⟩ := fin
    have all : ∀ p, p < ix (m 0 0 2) → ¬ (itr (fun jz s => bd_X7_pushbacks_23 jz s.1 s.2) 13 0 (lf_X7_pushbacks_2 12 μ, (0 : Int32))).1 4 0 p = 0 := by
      rcases hE with ⟨-, e⟩ | ⟨-, e⟩
      · have := acn_le (μ := (itr (fun jz s => bd_X7_pushbacks_23 jz s.1 s.2) 13 0 (lf_X7_pushbacks_2 12 μ, (0 : Int32))).1) (ix (m 0 0 2))
        omega
      · exact e
    have kN : k ≤ ix (m 0 0 2) := Nat.le_trans hk (acn_le _)
    rw [lf_X1_pushBack_4_eq]
    unfold ly_X1_pushBack_4
    -- nothing is left for the class either
    have fix : ∀ jz, bd_X1_pushBack_4 jz (itr (fun jz s => bd_X1_pushBack_4 jz s.1 s.2) k 0 (m, -1)).1 (itr (fun jz s => bd_X1_pushBack_4 jz s.1 s.2) k 0 (m, -1)).2 = itr (fun jz s => bd_X1_pushBack_4 jz s.1 s.2) k 0 (m, -1) := by
      intro jz
      obtain ⟨⟨hR, hv⟩, h0, ⟨lo, hlo, hca⟩, -⟩ := hP
      have nl : x_X1_nextToLeave (itr (fun jz s => bd_X1_pushBack_4 jz s.1 s.2) k 0 (m, -1)).1 (itr (fun jz s => bd_X1_pushBack_4 jz s.1 s.2) k 0 (m, -1)).2 = -1 := by
        rcases nl_ok hR.2 hlo with ⟨e, -⟩ | ⟨p', hp2, e, c', l', g⟩
        · exact e
        · have hp3 : p' < ix (m 0 0 2) := by rw [← h0]; exact hp2
          exact absurd ((hca p' hp3 c').mp (all p' hp3)) (by omega)
      have f0 : ∀ C : Mem × Int32, x_X1_nextToLeave C.1 C.2 = -1 → bd_X1_pushBack_4 jz C.1 C.2 = C := fun C h => by
        unfold bd_X1_pushBack_4
        rw [if_pos h]
      exact f0 _ nl
    have e : itr (fun jz (s : Mem × Int32) => bd_X1_pushBack_4 jz s.1 s.2) (ix (m 0 0 2)) 0 (m, -1) = itr (fun jz s => bd_X1_pushBack_4 jz s.1 s.2) k 0 (m, -1) := by
      rw [show ix (m 0 0 2) = k + (ix (m 0 0 2) - k) by omega, itr_add]
      exact itr_fix fix _ _
    rw [e]
    refine ⟨⟨hP.1.1, hP.1.2.1, Nat.le_trans hP.1.2.2 (by omega)⟩, hP.2.1, hP.2.2.2.1, fun z => ⟨(hP.2.2.2.2 z).1, fun p hp => (hP.2.2.2.2 z).2 p hp (all p hp)⟩⟩
  · obtain ⟨k, hk, hP, hE⟩ := g
    show ∃ k, k ≤ acn (bd_X7_pushbacks_23 i s.1 s.2).1 (ix (m 0 0 2)) ∧ PI B m k (bd_X7_pushbacks_23 i s.1 s.2).1 (itr (fun jz s => bd_X1_pushBack_4 jz s.1 s.2) k 0 (m, -1)) ∧ ((¬ (bd_X7_pushbacks_23 i s.1 s.2).2 = -1 ∧ acn (bd_X7_pushbacks_23 i s.1 s.2).1 (ix (m 0 0 2)) = i + 1) ∨ ((bd_X7_pushbacks_23 i s.1 s.2).2 = -1 ∧ ∀ p, p < ix (m 0 0 2) → ¬ (bd_X7_pushbacks_23 i s.1 s.2).1 4 0 p = 0))
    unfold bd_X7_pushbacks_23
    rcases hE with ⟨e1, e2⟩ | ⟨e1, e2⟩
    · rw [if_neg e1]
      have hc := hP.1.1.1.c (k := 2) (by decide)
      rw [← hc, hP.2.1]
      have nx := nx_ok hP.1.1
      rw [hP.2.1] at nx
      rcases nx with ⟨e, g⟩ | ⟨p, hp, e, g1, g2⟩
      · rw [if_pos e]
        exact ⟨k, hk, hP, Or.inr ⟨e, g⟩⟩
      · rw [if_neg (by rw [e]; exact nI_n1 (by omega)), e, ix_nI (by omega)]
        have ka := acn_le (μ := s.1) (ix (m 0 0 2))
        have k12 : k < 12 ∨ k = 12 := by omega
        have ac1 : acn (up3 s.1 4 0 p 1) (ix (m 0 0 2)) = acn s.1 (ix (m 0 0 2)) + 1 := acn_up g1 _ hp
        have ac2 : acn (x_X7_pushes (up3 s.1 4 0 p 1) p) (ix (m 0 0 2)) = acn s.1 (ix (m 0 0 2)) + 1 := by
          rw [acn_congr (μ := up3 s.1 4 0 p 1) (fun z => by rw [fr_pushes (by decide)]), ac1]
        have hle := acn_le (μ := up3 s.1 4 0 p 1) (ix (m 0 0 2))
        have st := pi_step (j := k) hB (by omega) hP hp g1 g2
        have nn : ¬ nI p = -1 := nI_n1 (by omega)
        by_cases w : x_X7_whyNot (up3 s.1 4 0 p 1) p = 0
        · rw [if_pos w] at st ⊢
          rcases st with st | st
          · exact ⟨k + 1, by rw [ac2]; omega, by rw [itr_snoc]; exact st, Or.inl ⟨nn, by rw [ac2, e2]⟩⟩
          · exact ⟨k, by rw [ac2]; omega, st, Or.inl ⟨nn, by rw [ac2, e2]⟩⟩
        · rw [if_neg w] at st ⊢
          rcases st with st | st
          · exact ⟨k + 1, by rw [ac1]; omega, by rw [itr_snoc]; exact st, Or.inl ⟨nn, by rw [ac1, e2]⟩⟩
          · exact ⟨k, by rw [ac1]; omega, st, Or.inl ⟨nn, by rw [ac1, e2]⟩⟩
    · rw [if_pos e1]
      exact ⟨k, hk, hP, Or.inr ⟨e1, e2⟩⟩
  · refine ⟨0, Nat.zero_le _, ⟨⟨R0, h.2⟩, rfl, ⟨0, Or.inl ⟨rfl, rfl⟩, fun p hp _ => ?_⟩, Nat.le_refl _, fun _ => ⟨rfl, fun p hp z => ?_⟩⟩, Or.inl ⟨show ¬ (0 : Int32) = -1 by decide, ac0 _ ba⟩⟩
    · exact ⟨fun z => absurd (a0 p (by omega)) z, fun z => absurd z (Nat.not_lt_zero _)⟩
    · exact absurd (a0 p (by omega)) z
end PB2
