/-! the model's pushbacks -/
theorem itr_congr {S : Type} {P : Nat → S → Prop} {f g : Nat → S → S} : ∀ (k j : Nat) (s : S), P j s → (∀ i s, i < j + k → P i s → P (i + 1) (f i s)) → (∀ i s, i < j + k → P i s → f i s = g i s) → itr f k j s = itr g k j s
  | 0, _, _, _, _, _ => rfl
  | k + 1, j, s, p, hp, h => by
    show itr f k (j + 1) (f j s) = itr g k (j + 1) (g j s)
    rw [← h j s (by omega) p]
    exact itr_congr k (j + 1) _ (hp j s (by omega) p) (fun i s hi => hp i s (by omega)) (fun i s hi => h i s (by omega))
theorem why0 {m : Mem} {q : Nat} (h : x_X7_whyNot m q = 0) : ¬ x_X7_tugFor m q = -1 := by
  intro e
  rw [x_X7_whyNot_eq] at h
  unfold y_X7_whyNot at h
  rw [if_pos e] at h
  repeat (first | (exact absurd h (by decide)) | split at h)
theorem tf_congr {m m' : Mem} {q : Nat} (hF : MK m) (hq : q < 12) (h1 : m' 1 0 1 = m 1 0 1) (h2 : ∀ k, 20 ≤ k → k < 35 → m' 1 0 k = m 1 0 k) (h3 : m' 1 0 (35 + 10 * q + 1) = m 1 0 (35 + 10 * q + 1)) : x_X7_tugFor m' q = x_X7_tugFor m q := by
  have ho : x_X7_of m' q 1 = x_X7_of m q 1 := by
    rw [x_X7_of_eq]
    exact h3
  have hn := hF.nt.2
  rw [x_X7_tugFor_eq]
  unfold y_X7_tugFor
  rw [h1, lf_X7_tugFor_4_eq]
  unfold ly_X7_tugFor_4
  refine (itr_congr (P := fun _ s => VX 3 s) _ _ _ (Or.inl rfl) (fun i s hi hb => fb_X7_tugFor_4 (j := i) hF hq (by omega) hb) (fun i s hi hb => ?_)).symm
  have hi3 : i < 3 := by omega
  unfold bd_X7_tugFor_4
  rw [ho, h2 (20 + 5 * i + 0) (by omega) (by omega), h2 (20 + 5 * i + 1) (by omega) (by omega)]
  by_cases e : s = -1
  · simp only [if_pos e]
  · have hs := VX.lt hb e
    rw [h2 (20 + 5 * ix s + 0) (by omega) (by omega)]
theorem bu_at {m : Mem} {q k : Nat} (h6 : k ≠ 6) (hk : k ≠ 35 + 10 * q + 9) : x_X7_buses m q 1 0 k = m 1 0 k := by
  rw [x_X7_buses_eq]
  unfold y_X7_buses
  rw [up3_k h6, up3_k hk]
theorem tf_buses {m : Mem} {q : Nat} (hF : MK m) (hq : q < 12) : x_X7_tugFor (x_X7_buses m q) q = x_X7_tugFor m q :=
  tf_congr hF hq (bu_at (by decide) (by omega)) (fun k h1 h2 => bu_at (by omega) (by omega)) (bu_at (by omega) (by omega))
def asked_ (m : Mem) : Nat → Nat
  | 0 => 0
  | n + 1 => asked_ m n + (if m 4 0 n = 1 then 1 else 0)
def asked (m : Mem) : Nat := asked_ m 12
theorem asked__le (m : Mem) : ∀ n, asked_ m n ≤ n
  | 0 => Nat.le_refl _
  | n + 1 => by
    have := asked__le m n
    show asked_ m n + (if m 4 0 n = 1 then 1 else 0) ≤ n + 1
    split <;> omega
theorem asked_le (m : Mem) : asked m ≤ 12 := asked__le m 12
theorem asked__up {m : Mem} {q : Nat} (h : m 4 0 q = 0) : ∀ n, asked_ (up3 m 4 0 q 1) n = asked_ m n + (if q < n then 1 else 0)
  | 0 => rfl
  | n + 1 => by
    show asked_ (up3 m 4 0 q 1) n + (if up3 m 4 0 q 1 4 0 n = 1 then 1 else 0) = asked_ m n + (if m 4 0 n = 1 then 1 else 0) + (if q < n + 1 then 1 else 0)
    rw [asked__up h n]
    by_cases e : q = n
    · subst e
      rw [up3_self, if_pos rfl, if_neg (Nat.lt_irrefl q), if_pos (Nat.lt_succ_self q), h, if_neg (by decide)]
    · rw [up3_ne (fun z => e z.2.2.symm)]
      by_cases g : q < n
      · rw [if_pos g, if_pos (show q < n + 1 by omega)]
        omega
      · rw [if_neg g, if_neg (show ¬ q < n + 1 by omega)]
        rfl
theorem asked_up {m : Mem} {q : Nat} (hq : q < 12) (h : m 4 0 q = 0) : asked (up3 m 4 0 q 1) = asked m + 1 := by
  unfold asked
  rw [asked__up h 12, if_pos hq]
noncomputable def y_X7_pushes (m : Mem) (q : Nat) : Mem := (if (x_X7_of m q 5) = 2 then (x_X7_writes (up3 (up3 (x_X7_takes (x_X7_buses m q) (ix (x_X7_tugFor (x_X7_buses m q) q)) (nI q) 5 3) 1 0 (35 + 10 * q + 5) 4) 1 0 (35 + 10 * q + 7) (((up3 (x_X7_takes (x_X7_buses m q) (ix (x_X7_tugFor (x_X7_buses m q) q)) (nI q) 5 3) 1 0 (35 + 10 * q + 5) 4) 1 0 3) - (x_X7_of (up3 (x_X7_takes (x_X7_buses m q) (ix (x_X7_tugFor (x_X7_buses m q) q)) (nI q) 5 3) 1 0 (35 + 10 * q + 5) 4) q 3))) 3 (nI q)) else (x_X7_writes (up3 (up3 (x_X7_takes m (ix (x_X7_tugFor m q)) (nI q) 5 3) 1 0 (35 + 10 * q + 5) 4) 1 0 (35 + 10 * q + 7) (((up3 (x_X7_takes m (ix (x_X7_tugFor m q)) (nI q) 5 3) 1 0 (35 + 10 * q + 5) 4) 1 0 3) - (x_X7_of (up3 (x_X7_takes m (ix (x_X7_tugFor m q)) (nI q) 5 3) 1 0 (35 + 10 * q + 5) 4) q 3))) 3 (nI q)))
theorem xe_X7_pushes : ∃ f, f = y_X7_pushes := ⟨y_X7_pushes, rfl⟩
noncomputable def x_X7_pushes := Classical.choose xe_X7_pushes
theorem x_X7_pushes_eq : x_X7_pushes = y_X7_pushes := Classical.choose_spec xe_X7_pushes
theorem fw_X7_pushes {m : Mem} {q : Nat} {v_q : Int32} {B : Nat} {m0 : Mem} (e_q : v_q = nI q) (hW : MW B m0 m) (hB : B + 0 < 2147483648) (hq : q < 12) (hp : ¬ x_X7_tugFor m q = -1) : MW (B + 0) m0 (x_X7_pushes m q) := by
  subst e_q
  rw [x_X7_pushes_eq]
  unfold y_X7_pushes
  by_cases h7 : (x_X7_of m q 5) = 2
  · rw [if_pos h7]
    have n24 : ¬ x_X7_tugFor (x_X7_buses m q) q = -1 := by first | exact hp | (rw [tf_buses hW.1 hq]; exact hp)
    have e24 : x_X7_tugFor (x_X7_buses m q) q = nI (ix (x_X7_tugFor (x_X7_buses m q) q)) := VX.eq (vx_X7_tugFor (fw_X7_buses (q := q) rfl hW (by omega) (by omega)).1 hq) n24
    have b24 : ix (x_X7_tugFor (x_X7_buses m q) q) < 3 := VX.lt (vx_X7_tugFor (fw_X7_buses (q := q) rfl hW (by omega) (by omega)).1 hq) n24
    exact MW.mono (fw_X7_writes (MW.up (MW.up (fw_X7_takes (t := (ix (x_X7_tugFor (x_X7_buses m q) q))) (w := 3) e24 rfl (fw_X7_buses (q := q) rfl hW (by omega) (by omega)) (by omega) (by omega) (by decide) (VX_nI hq (by decide))) (by unfold mok; omega)) (by unfold mok; omega)) (by omega)) (by omega)
  · rw [if_neg h7]
    have n24 : ¬ x_X7_tugFor m q = -1 := by first | exact hp | (rw [tf_buses hW.1 hq]; exact hp)
    have e24 : x_X7_tugFor m q = nI (ix (x_X7_tugFor m q)) := VX.eq (vx_X7_tugFor hW.1 hq) n24
    have b24 : ix (x_X7_tugFor m q) < 3 := VX.lt (vx_X7_tugFor hW.1 hq) n24
    exact MW.mono (fw_X7_writes (MW.up (MW.up (fw_X7_takes (t := (ix (x_X7_tugFor m q))) (w := 3) e24 rfl hW (by omega) (by omega) (by decide) (VX_nI hq (by decide))) (by unfold mok; omega)) (by unfold mok; omega)) (by omega)) (by omega)
theorem wr_4 {m : Mem} {p1 p2 : Int32} : x_X7_writes m p1 p2 4 = m 4 := by
  have e : ∀ a b, lf_X7_writes_3 a b 87 m 4 = m 4 := by
    intro a b
    rw [lf_X7_writes_3_eq]
    unfold ly_X7_writes_3
    exact itr_inv (P := fun (_ : Nat) (s : Mem) => s 4 = m 4) _ (fun j s _ h => by rw [← h]; rfl) rfl
  rw [x_X7_writes_eq]
  unfold y_X7_writes
  split <;> exact e _ _

theorem asked_pushes {m : Mem} {q : Nat} : asked (x_X7_pushes m q) = asked m := by
  have e : x_X7_pushes m q 4 = m 4 := by
    rw [x_X7_pushes_eq]
    unfold y_X7_pushes
    split
    all_goals
      rw [wr_4, x_X7_takes_eq]
      try rw [x_X7_buses_eq]
      rfl
  have g : ∀ n, asked_ (x_X7_pushes m q) n = asked_ m n := by
    intro n
    induction n with
    | zero => rfl
    | succ n ih =>
      show asked_ (x_X7_pushes m q) n + (if x_X7_pushes m q 4 0 n = 1 then 1 else 0) = asked_ m n + (if m 4 0 n = 1 then 1 else 0)
      rw [ih, e]
  exact g 12
noncomputable def bd_X7_pushbacks_2 (j : Nat) (m : Mem) : Mem := (up3 m 4 0 j 0)
noncomputable def ly_X7_pushbacks_2 (N : Nat) (m : Mem) : Mem := itr (fun jz s => bd_X7_pushbacks_2 jz s) N 0 m
theorem le_X7_pushbacks_2 : ∃ f, f = ly_X7_pushbacks_2 := ⟨ly_X7_pushbacks_2, rfl⟩
noncomputable def lf_X7_pushbacks_2 := Classical.choose le_X7_pushbacks_2
theorem lf_X7_pushbacks_2_eq : lf_X7_pushbacks_2 = ly_X7_pushbacks_2 := Classical.choose_spec le_X7_pushbacks_2
theorem fb_X7_pushbacks_2 {B : Nat} {m0 : Mem} (hB : B + 0 < 2147483648) {j : Nat} {m : Mem} (hjN : j < 12) (hW : MW (B + 0 * j) m0 m) : (MW (B + 0 * (j + 1)) m0 (bd_X7_pushbacks_2 j m)) := by
  unfold bd_X7_pushbacks_2
  exact (MW.mono (MW.upo hW (by decide)) (by omega))
theorem fl_X7_pushbacks_2 {B : Nat} {m0 : Mem} (hB : B + 0 < 2147483648) {m : Mem} {N : Nat} (hNl : N = 12) (hW : MW (B + 0 * 0) m0 m) : (MW (B + 0 * N) m0 (lf_X7_pushbacks_2 N m)) := by
  rw [lf_X7_pushbacks_2_eq]
  unfold ly_X7_pushbacks_2
  exact itr_inv (n := N) (s := m) (P := fun jz s => (MW (B + 0 * jz) m0 s)) (fun jz s => bd_X7_pushbacks_2 jz s) (fun jz s hj hs => fb_X7_pushbacks_2 (B := B) (m0 := m0) hB (j := jz) (m := s) (by omega) hs) hW
noncomputable def bd_X7_pushbacks_32 (m : Mem) (j : Nat) (c1 : Int32) : Int32 := (if (m 4 0 j) = 0 then (if c1 = (-1) then (nI j) else (if (x_X7_of m j 3) < (x_X7_of m (ix c1) 3) then (nI j) else c1)) else c1)
noncomputable def ly_X7_pushbacks_32 (m : Mem) (N : Nat) (c1 : Int32) : Int32 := itr (fun jz s => bd_X7_pushbacks_32 m jz s) N 0 c1
theorem le_X7_pushbacks_32 : ∃ f, f = ly_X7_pushbacks_32 := ⟨ly_X7_pushbacks_32, rfl⟩
noncomputable def lf_X7_pushbacks_32 := Classical.choose le_X7_pushbacks_32
theorem lf_X7_pushbacks_32_eq : lf_X7_pushbacks_32 = ly_X7_pushbacks_32 := Classical.choose_spec le_X7_pushbacks_32
theorem fb_X7_pushbacks_32 {m : Mem} {j : Nat} {c1 : Int32} (hjN : j < 12) (hb : VX 12 c1) (ha : c1 = -1 ∨ m 4 0 (ix c1) = 0) : (VX 12 (bd_X7_pushbacks_32 m j c1)) ∧ ((bd_X7_pushbacks_32 m j c1) = -1 ∨ m 4 0 (ix (bd_X7_pushbacks_32 m j c1)) = 0) := by
  unfold bd_X7_pushbacks_32
  by_cases h48 : (m 4 0 j) = 0
  · rw [if_pos h48]
    by_cases h53 : c1 = (-1)
    · rw [if_pos h53]
      exact ⟨(by first | assumption | exact VX_nI (by omega) (by decide)), (by first | assumption | (right; rw [ix_nI (by omega)]; assumption))⟩
    · rw [if_neg h53]
      have b62 : ix c1 < 12 := VX.lt hb h53
      by_cases h68 : (x_X7_of m j 3) < (x_X7_of m (ix c1) 3)
      · rw [if_pos h68]
        exact ⟨(by first | assumption | exact VX_nI (by omega) (by decide)), (by first | assumption | (right; rw [ix_nI (by omega)]; assumption))⟩
      · rw [if_neg h68]
        exact ⟨(by first | assumption | exact VX_nI (by omega) (by decide)), (by first | assumption | (right; rw [ix_nI (by omega)]; assumption))⟩
  · rw [if_neg h48]
    exact ⟨(by first | assumption | exact VX_nI (by omega) (by decide)), (by first | assumption | (right; rw [ix_nI (by omega)]; assumption))⟩
theorem fl_X7_pushbacks_32 {m : Mem} {N : Nat} {c1 : Int32} (hNc : N ≤ 12) (hb : VX 12 c1) (ha : c1 = -1 ∨ m 4 0 (ix c1) = 0) : (VX 12 (lf_X7_pushbacks_32 m N c1)) ∧ ((lf_X7_pushbacks_32 m N c1) = -1 ∨ m 4 0 (ix (lf_X7_pushbacks_32 m N c1)) = 0) := by
  rw [lf_X7_pushbacks_32_eq]
  unfold ly_X7_pushbacks_32
  exact itr_inv (n := N) (s := c1) (P := fun jz s => (VX 12 s) ∧ (s = -1 ∨ m 4 0 (ix s) = 0)) (fun jz s => bd_X7_pushbacks_32 m jz s) (fun jz s hj hs => fb_X7_pushbacks_32 (j := jz) (c1 := s) (by omega) hs.1 hs.2) ⟨hb, ha⟩
noncomputable def bd_X7_pushbacks_23 (j : Nat) (m : Mem) (c1 : Int32) : Mem × Int32 := (if c1 = (-1) then (m, c1) else (if (lf_X7_pushbacks_32 m (ix (m 1 0 2)) (-1)) = (-1) then (m, (lf_X7_pushbacks_32 m (ix (m 1 0 2)) (-1))) else (if (x_X7_whyNot (up3 m 4 0 (ix (lf_X7_pushbacks_32 m (ix (m 1 0 2)) (-1))) 1) (ix (lf_X7_pushbacks_32 m (ix (m 1 0 2)) (-1)))) = 0 then ((x_X7_pushes (up3 m 4 0 (ix (lf_X7_pushbacks_32 m (ix (m 1 0 2)) (-1))) 1) (ix (lf_X7_pushbacks_32 m (ix (m 1 0 2)) (-1)))), (lf_X7_pushbacks_32 m (ix (m 1 0 2)) (-1))) else ((up3 m 4 0 (ix (lf_X7_pushbacks_32 m (ix (m 1 0 2)) (-1))) 1), (lf_X7_pushbacks_32 m (ix (m 1 0 2)) (-1))))))
noncomputable def ly_X7_pushbacks_23 (N : Nat) (m : Mem) (c1 : Int32) : Mem × Int32 := itr (fun jz s => bd_X7_pushbacks_23 jz s.1 s.2) N 0 (m, c1)
theorem le_X7_pushbacks_23 : ∃ f, f = ly_X7_pushbacks_23 := ⟨ly_X7_pushbacks_23, rfl⟩
noncomputable def lf_X7_pushbacks_23 := Classical.choose le_X7_pushbacks_23
theorem lf_X7_pushbacks_23_eq : lf_X7_pushbacks_23 = ly_X7_pushbacks_23 := Classical.choose_spec le_X7_pushbacks_23
theorem fb_X7_pushbacks_23 {B : Nat} {m0 : Mem} (hB : B + 0 < 2147483648) {j : Nat} {m : Mem} {c1 : Int32} (hjN : j < 13) (hW : MW (B + 0 * j) m0 m) (hA : c1 = -1 ∨ j ≤ asked m) : (MW (B + 0 * (j + 1)) m0 (bd_X7_pushbacks_23 j m c1).1) ∧ ((bd_X7_pushbacks_23 j m c1).2 = -1 ∨ (j + 1) ≤ asked (bd_X7_pushbacks_23 j m c1).1) := by
  unfold bd_X7_pushbacks_23
  by_cases h25 : c1 = (-1)
  · rw [if_pos h25]
    try dsimp only
    exact ⟨(MW.mono hW (by omega)), (by first | exact Or.inl h25 | exact Or.inl h85 | (have q := hA.resolve_left h25; have z := asked_up (m := m) b88 (f88.2.resolve_left h85); right; first | omega | (rw [asked_pushes]; omega)))⟩
  · rw [if_neg h25]
    by_cases h85 : (lf_X7_pushbacks_32 m (ix (m 1 0 2)) (-1)) = (-1)
    · rw [if_pos h85]
      try dsimp only
      exact ⟨(MW.mono hW (by omega)), (by first | exact Or.inl h25 | exact Or.inl h85 | (have q := hA.resolve_left h25; have z := asked_up (m := m) b88 (f88.2.resolve_left h85); right; first | omega | (rw [asked_pushes]; omega)))⟩
    · rw [if_neg h85]
      have f88 := fl_X7_pushbacks_32 (m := m) hW.1.na.2 (Or.inl rfl) (Or.inl rfl)
      have e88 := VX.eq f88.1 h85
      have b88 := VX.lt f88.1 h85
      by_cases h100 : (x_X7_whyNot (up3 m 4 0 (ix (lf_X7_pushbacks_32 m (ix (m 1 0 2)) (-1))) 1) (ix (lf_X7_pushbacks_32 m (ix (m 1 0 2)) (-1)))) = 0
      · rw [if_pos h100]
        try dsimp only
        exact ⟨(MW.mono (fw_X7_pushes (q := (ix (lf_X7_pushbacks_32 m (ix (m 1 0 2)) (-1)))) e88 (MW.upo hW (by decide)) (by omega) (by omega) (why0 h100)) (by omega)), (by first | exact Or.inl h25 | exact Or.inl h85 | (have q := hA.resolve_left h25; have z := asked_up (m := m) b88 (f88.2.resolve_left h85); right; first | omega | (rw [asked_pushes]; omega)))⟩
      · rw [if_neg h100]
        try dsimp only
        exact ⟨(MW.mono (MW.upo hW (by decide)) (by omega)), (by first | exact Or.inl h25 | exact Or.inl h85 | (have q := hA.resolve_left h25; have z := asked_up (m := m) b88 (f88.2.resolve_left h85); right; first | omega | (rw [asked_pushes]; omega)))⟩
theorem fl_X7_pushbacks_23 {B : Nat} {m0 : Mem} (hB : B + 0 < 2147483648) {m : Mem} {c1 : Int32} {N : Nat} (hNl : N = 13) (hW : MW (B + 0 * 0) m0 m) (hA : c1 = -1 ∨ 0 ≤ asked m) : (MW (B + 0 * N) m0 (lf_X7_pushbacks_23 N m c1).1) ∧ ((lf_X7_pushbacks_23 N m c1).2 = -1 ∨ N ≤ asked (lf_X7_pushbacks_23 N m c1).1) := by
  rw [lf_X7_pushbacks_23_eq]
  unfold ly_X7_pushbacks_23
  exact itr_inv (n := N) (s := (m, c1)) (P := fun jz s => (MW (B + 0 * jz) m0 s.1) ∧ (s.2 = -1 ∨ jz ≤ asked s.1)) (fun jz s => bd_X7_pushbacks_23 jz s.1 s.2) (fun jz s hj hs => fb_X7_pushbacks_23 (B := B) (m0 := m0) hB (j := jz) (m := s.1) (c1 := s.2) (by omega) hs.1 hs.2) ⟨hW, hA⟩
noncomputable def y_X7_pushbacks (m : Mem) : Mem := ((lf_X7_pushbacks_23 13 (lf_X7_pushbacks_2 12 m) 0).1)
theorem xe_X7_pushbacks : ∃ f, f = y_X7_pushbacks := ⟨y_X7_pushbacks, rfl⟩
noncomputable def x_X7_pushbacks := Classical.choose xe_X7_pushbacks
theorem x_X7_pushbacks_eq : x_X7_pushbacks = y_X7_pushbacks := Classical.choose_spec xe_X7_pushbacks
theorem fw_X7_pushbacks {m : Mem} {B : Nat} {m0 : Mem} (hW : MW B m0 m) (hB : B + 0 < 2147483648) : MW (B + 0) m0 (x_X7_pushbacks m) := by
  rw [x_X7_pushbacks_eq]
  unfold y_X7_pushbacks
  exact MW.mono (MW.mono (fl_X7_pushbacks_23 (m := (lf_X7_pushbacks_2 12 m)) (c1 := 0) (B := B) (m0 := m0) (by omega) (N := 13) rfl (MW.mono (MW.mono (fl_X7_pushbacks_2 (m := m) (B := B) (m0 := m0) (by omega) (N := 12) rfl (MW.mono hW (by omega))) (B' := B + 0) (by omega)) (by omega)) (Or.inr (Nat.zero_le _))).1 (B' := B + 0) (by omega)) (by omega)
