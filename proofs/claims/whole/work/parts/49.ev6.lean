/-! the model's pushbacks -/
theorem itr_congr {S : Type} {P : Nat → S → Prop} {f g : Nat → S → S} : ∀ (k j : Nat) (s : S), P j s → (∀ i s, i < j + k → P i s → P (i + 1) (f i s)) → (∀ i s, i < j + k → P i s → f i s = g i s) → itr f k j s = itr g k j s
  | 0, _, _, _, _, _ => rfl
  | k + 1, j, s, p, hp, h => by
    show itr f k (j + 1) (f j s) = itr g k (j + 1) (g j s)
    rw [← h j s (by omega) p]
    exact itr_congr k (j + 1) _ (hp j s (by omega) p) (fun i s hi => hp i s (by omega)) (fun i s hi => h i s (by omega))
theorem why0 {m : Mem} {q : Nat} (h : x_X7_whyNot m q = 0) : ¬ x_X7_tugFor m q = -1 := by
  intro e
  rw [x_X7_whyNot_eq] at h
  unfold y_X7_whyNot at h
  rw [if_pos e] at h
  repeat (first | (exact absurd h (by decide)) | split at h)
theorem tf_congr {m m' : Mem} {q : Nat} (hF : MK m) (hq : q < 12) (h1 : m' 1 0 1 = m 1 0 1) (h2 : ∀ k, 20 ≤ k → k < 35 → m' 1 0 k = m 1 0 k) (h3 : m' 1 0 (35 + 10 * q + 1) = m 1 0 (35 + 10 * q + 1)) : x_X7_tugFor m' q = x_X7_tugFor m q := by
  have ho : x_X7_of m' q 1 = x_X7_of m q 1 := by
    rw [x_X7_of_eq]
    exact h3
  have hn := hF.nt.2
  rw [x_X7_tugFor_eq]
  unfold y_X7_tugFor
  rw [h1, lf_X7_tugFor_4_eq]
  unfold ly_X7_tugFor_4
  refine (itr_congr (P := fun _ s => VX 3 s) _ _ _ (Or.inl rfl) (fun i s hi hb => fb_X7_tugFor_4 (j := i) hF hq (by omega) hb) (fun i s hi hb => ?_)).symm
  have hi3 : i < 3 := by omega
  unfold bd_X7_tugFor_4
  rw [ho, h2 (20 + 5 * i + 0) (by omega) (by omega), h2 (20 + 5 * i + 1) (by omega) (by omega)]
  by_cases e : s = -1
  · simp only [if_pos e]
  · have hs := VX.lt hb e
    rw [h2 (20 + 5 * ix s + 0) (by omega) (by omega)]
theorem bu_at {m : Mem} {q k : Nat} (h6 : k ≠ 6) (hk : k ≠ 35 + 10 * q + 9) : x_X7_buses m q 1 0 k = m 1 0 k := by
  rw [x_X7_buses_eq]
  unfold y_X7_buses
  rw [up3_k h6, up3_k hk]
theorem tf_buses {m : Mem} {q : Nat} (hF : MK m) (hq : q < 12) : x_X7_tugFor (x_X7_buses m q) q = x_X7_tugFor m q :=
  tf_congr hF hq (bu_at (by decide) (by omega)) (fun k h1 h2 => bu_at (by omega) (by omega)) (bu_at (by omega) (by omega))
def asked_ (m : Mem) : Nat → Nat
  | 0 => 0
  | n + 1 => asked_ m n + (if m 4 0 n = 1 then 1 else 0)
def asked (m : Mem) : Nat := asked_ m 12
theorem asked__le (m : Mem) : ∀ n, asked_ m n ≤ n
  | 0 => Nat.le_refl _
  | n + 1 => by
    have := asked__le m n
    show asked_ m n + (if m 4 0 n = 1 then 1 else 0) ≤ n + 1
    split <;> omega
theorem asked_le (m : Mem) : asked m ≤ 12 := asked__le m 12
theorem asked__up {m : Mem} {q : Nat} (h : m 4 0 q = 0) : ∀ n, asked_ (up3 m 4 0 q 1) n = asked_ m n + (if q < n then 1 else 0)
  | 0 => rfl
  | n + 1 => by
    show asked_ (up3 m 4 0 q 1) n + (if up3 m 4 0 q 1 4 0 n = 1 then 1 else 0) = asked_ m n + (if m 4 0 n = 1 then 1 else 0) + (if q < n + 1 then 1 else 0)
    rw [asked__up h n]
    by_cases e : q = n
    · subst e
      rw [up3_self, if_pos rfl, if_neg (Nat.lt_irrefl q), if_pos (Nat.lt_succ_self q), h, if_neg (by decide)]
    · rw [up3_ne (fun z => e z.2.2.symm)]
      by_cases g : q < n
      · rw [if_pos g, if_pos (show q < n + 1 by omega)]
        omega
      · rw [if_neg g, if_neg (show ¬ q < n + 1 by omega)]
        rfl
theorem asked_up {m : Mem} {q : Nat} (hq : q < 12) (h : m 4 0 q = 0) : asked (up3 m 4 0 q 1) = asked m + 1 := by
  unfold asked
  rw [asked__up h 12, if_pos hq]
noncomputable def y_X7_pushes (m : Mem) (q : Nat) : Mem := (if (x_X7_of m q 5) = 2 then (x_X7_writes (up3 (up3 (x_X7_takes (x_X7_buses m q) (ix (x_X7_tugFor (x_X7_buses m q) q)) (nI q) 5 3) 1 0 (35 + 10 * q + 5) 4) 1 0 (35 + 10 * q + 7) (((up3 (x_X7_takes (x_X7_buses m q) (ix (x_X7_tugFor (x_X7_buses m q) q)) (nI q) 5 3) 1 0 (35 + 10 * q + 5) 4) 1 0 3) - (x_X7_of (up3 (x_X7_takes (x_X7_buses m q) (ix (x_X7_tugFor (x_X7_buses m q) q)) (nI q) 5 3) 1 0 (35 + 10 * q + 5) 4) q 3))) 3 (nI q)) else (x_X7_writes (up3 (up3 (x_X7_takes m (ix (x_X7_tugFor m q)) (nI q) 5 3) 1 0 (35 + 10 * q + 5) 4) 1 0 (35 + 10 * q + 7) (((up3 (x_X7_takes m (ix (x_X7_tugFor m q)) (nI q) 5 3) 1 0 (35 + 10 * q + 5) 4) 1 0 3) - (x_X7_of (up3 (x_X7_takes m (ix (x_X7_tugFor m q)) (nI q) 5 3) 1 0 (35 + 10 * q + 5) 4) q 3))) 3 (nI q)))
theorem xe_X7_pushes : ∃ f, f = y_X7_pushes := ⟨y_X7_pushes, rfl⟩
noncomputable def x_X7_pushes := Classical.choose xe_X7_pushes
theorem x_X7_pushes_eq : x_X7_pushes = y_X7_pushes := Classical.choose_spec xe_X7_pushes
theorem ev_X7_pushes {d n c s b : Nat} {m : Mem} {M : JM} {q : Nat} {v_q : Int32} {B : Nat} {m0 : Mem} {res : Mem} (hd : 4 ≤ d) (e_q : v_q = nI q) (hW : MW B m0 m) (hB : B + 0 < 2147483648) (hq : q < 12) (hp : ¬ x_X7_tugFor m q = -1) (hx : x_X7_pushes m q = res) : Ev mtab mcode d 124 [.ref b, .int v_q] (n, c, s, mm b m M) (.inl none) (n, c, s, mm b res M) := by
  obtain ⟨d, rfl⟩ : ∃ e, d = e + 1 := ⟨d - 1, by omega⟩
  subst e_q
  rw [x_X7_pushes_eq] at hx
  unfold y_X7_pushes at hx
  refine jv_mk (m := mX7_pushes) (cd := jcX7_pushes) rfl rfl (Nat.le_of_ble_eq_true rfl) trivial ?_
  refine JV.ald (p2 := 1) rfl rfl rfl ?_
  refine JV.ild (p2 := 2) rfl rfl rfl ?_
  refine JV.stk (len := 1) (sem := (s_push (.int 5))) (p2 := 3) rfl rfl rfl ?_
  refine JV.invI (p2 := 6) rfl rfl rfl mm_M (Nat.le_of_ble_eq_true rfl) rfl (ev_X7_of (q := q) (w := 5) (by omega) rfl rfl (by omega) (by omega) rfl) ?_
  refine JV.stk (len := 1) (sem := (s_push (.int 2))) (p2 := 7) rfl rfl rfl ?_
  by_cases h7 : (x_X7_of m q 5) = 2
  · rw [if_pos h7] at hx
    refine JV.brF (p2 := 10) rfl rfl rfl (fun e => e h7) ?_
    refine JV.ald (p2 := 11) rfl rfl rfl ?_
    refine JV.ild (p2 := 12) rfl rfl rfl ?_
    refine JV.inv0 (p2 := 15) rfl rfl rfl mm_M (Nat.le_of_ble_eq_true rfl) rfl (ev_X7_buses (q := q) (by omega) rfl hW (by omega) (by omega) rfl) ?_
    refine JV.ald (p2 := 16) rfl rfl rfl ?_
    refine JV.ald (p2 := 17) rfl rfl rfl ?_
    refine JV.ild (p2 := 18) rfl rfl rfl ?_
    refine JV.invI (p2 := 21) rfl rfl rfl mm_M (Nat.le_of_ble_eq_true rfl) rfl (ev_X7_tugFor (q := q) (by omega) rfl (fw_X7_buses (q := q) rfl hW (by omega) (by omega)).1 (by omega) rfl) ?_
    refine JV.ild (p2 := 22) rfl rfl rfl ?_
    refine JV.stk (len := 1) (sem := (s_push (.int 5))) (p2 := 23) rfl rfl rfl ?_
    refine JV.stk (len := 1) (sem := (s_push (.int 3))) (p2 := 24) rfl rfl rfl ?_
    have n24 : ¬ x_X7_tugFor (x_X7_buses m q) q = -1 := by first | exact hp | (rw [tf_buses hW.1 hq]; exact hp)
    have e24 : x_X7_tugFor (x_X7_buses m q) q = nI (ix (x_X7_tugFor (x_X7_buses m q) q)) := VX.eq (vx_X7_tugFor (fw_X7_buses (q := q) rfl hW (by omega) (by omega)).1 hq) n24
    have b24 : ix (x_X7_tugFor (x_X7_buses m q) q) < 3 := VX.lt (vx_X7_tugFor (fw_X7_buses (q := q) rfl hW (by omega) (by omega)).1 hq) n24
    refine JV.inv0 (p2 := 27) rfl rfl rfl mm_M (Nat.le_of_ble_eq_true rfl) rfl (ev_X7_takes (t := (ix (x_X7_tugFor (x_X7_buses m q) q))) (w := 3) (by omega) e24 rfl (fw_X7_buses (q := q) rfl hW (by omega) (by omega)) (by omega) (by omega) (by decide) (VX_nI hq (by decide)) rfl) ?_
    refine JV.ald (p2 := 28) rfl rfl rfl ?_
    refine JV.getf (p2 := 31) rfl mm_M rfl rfl ?_
    refine JV.ild (p2 := 32) rfl rfl rfl ?_
    refine JV.stk (len := 1) (sem := (s_push (.int 5))) (p2 := 33) rfl rfl rfl ?_
    refine JV.insI (p2 := 36) rfl (Nat.le_of_ble_eq_true rfl) rfl rfl (Nat.le_of_ble_eq_true rfl) rfl (ev_X7_planeAt (by omega) rfl) rfl ?_
    refine JV.stk (len := 1) (sem := (s_push (.int 4))) (p2 := 37) rfl rfl rfl ?_
    refine JV.iast (p2 := 38) (j := (35 + 10 * q + 5)) rfl mm_1 (pa_at rfl rfl) (by omega) (by decide) (mm_w1 (k := (35 + 10 * q + 5)) rfl) rfl ?_
    refine JV.ald (p2 := 39) rfl rfl rfl ?_
    refine JV.getf (p2 := 42) rfl mm_M rfl rfl ?_
    refine JV.ild (p2 := 43) rfl rfl rfl ?_
    refine JV.stk (len := 2) (sem := (s_push (.int 7))) (p2 := 45) rfl rfl rfl ?_
    refine JV.insI (p2 := 48) rfl (Nat.le_of_ble_eq_true rfl) rfl rfl (Nat.le_of_ble_eq_true rfl) rfl (ev_X7_planeAt (by omega) rfl) rfl ?_
    refine JV.ald (p2 := 49) rfl rfl rfl ?_
    refine JV.getf (p2 := 52) rfl mm_M rfl rfl ?_
    refine JV.stk (len := 1) (sem := (s_push (.int 3))) (p2 := 53) rfl rfl rfl ?_
    refine JV.iald (p2 := 54) (j := 3) rfl mm_1 rfl (by omega) (by decide) rfl ?_
    refine JV.ald (p2 := 55) rfl rfl rfl ?_
    refine JV.ild (p2 := 56) rfl rfl rfl ?_
    refine JV.stk (len := 1) (sem := (s_push (.int 3))) (p2 := 57) rfl rfl rfl ?_
    refine JV.invI (p2 := 60) rfl rfl rfl mm_M (Nat.le_of_ble_eq_true rfl) rfl (ev_X7_of (q := q) (w := 3) (by omega) rfl rfl (by omega) (by omega) rfl) ?_
    refine JV.stk (len := 1) (sem := s_isub) (p2 := 61) rfl rfl rfl ?_
    refine JV.iast (p2 := 62) (j := (35 + 10 * q + 7)) rfl mm_1 (pa_at rfl rfl) (by omega) (by decide) (mm_w1 (k := (35 + 10 * q + 7)) rfl) rfl ?_
    refine JV.ald (p2 := 63) rfl rfl rfl ?_
    refine JV.stk (len := 1) (sem := (s_push (.int 3))) (p2 := 64) rfl rfl rfl ?_
    refine JV.ild (p2 := 65) rfl rfl rfl ?_
    refine JV.inv0 (p2 := 68) rfl rfl rfl mm_M (Nat.le_of_ble_eq_true rfl) rfl (ev_X7_writes (by omega) (MW.up (MW.up (fw_X7_takes (t := (ix (x_X7_tugFor (x_X7_buses m q) q))) (w := 3) e24 rfl (fw_X7_buses (q := q) rfl hW (by omega) (by omega)) (by omega) (by omega) (by decide) (VX_nI hq (by decide))) (by unfold mok; omega)) (by unfold mok; omega)) (by omega) rfl) ?_
    subst hx
    exact JV.ret rfl (fun _ => rfl) rfl rfl
  · rw [if_neg h7] at hx
    refine JV.brT rfl rfl h7 ?_
    refine JV.ald (p2 := 16) rfl rfl rfl ?_
    refine JV.ald (p2 := 17) rfl rfl rfl ?_
    refine JV.ild (p2 := 18) rfl rfl rfl ?_
    refine JV.invI (p2 := 21) rfl rfl rfl mm_M (Nat.le_of_ble_eq_true rfl) rfl (ev_X7_tugFor (q := q) (by omega) rfl hW.1 (by omega) rfl) ?_
    refine JV.ild (p2 := 22) rfl rfl rfl ?_
    refine JV.stk (len := 1) (sem := (s_push (.int 5))) (p2 := 23) rfl rfl rfl ?_
    refine JV.stk (len := 1) (sem := (s_push (.int 3))) (p2 := 24) rfl rfl rfl ?_
    have n24 : ¬ x_X7_tugFor m q = -1 := by first | exact hp | (rw [tf_buses hW.1 hq]; exact hp)
    have e24 : x_X7_tugFor m q = nI (ix (x_X7_tugFor m q)) := VX.eq (vx_X7_tugFor hW.1 hq) n24
    have b24 : ix (x_X7_tugFor m q) < 3 := VX.lt (vx_X7_tugFor hW.1 hq) n24
    refine JV.inv0 (p2 := 27) rfl rfl rfl mm_M (Nat.le_of_ble_eq_true rfl) rfl (ev_X7_takes (t := (ix (x_X7_tugFor m q))) (w := 3) (by omega) e24 rfl hW (by omega) (by omega) (by decide) (VX_nI hq (by decide)) rfl) ?_
    refine JV.ald (p2 := 28) rfl rfl rfl ?_
    refine JV.getf (p2 := 31) rfl mm_M rfl rfl ?_
    refine JV.ild (p2 := 32) rfl rfl rfl ?_
    refine JV.stk (len := 1) (sem := (s_push (.int 5))) (p2 := 33) rfl rfl rfl ?_
    refine JV.insI (p2 := 36) rfl (Nat.le_of_ble_eq_true rfl) rfl rfl (Nat.le_of_ble_eq_true rfl) rfl (ev_X7_planeAt (by omega) rfl) rfl ?_
    refine JV.stk (len := 1) (sem := (s_push (.int 4))) (p2 := 37) rfl rfl rfl ?_
    refine JV.iast (p2 := 38) (j := (35 + 10 * q + 5)) rfl mm_1 (pa_at rfl rfl) (by omega) (by decide) (mm_w1 (k := (35 + 10 * q + 5)) rfl) rfl ?_
    refine JV.ald (p2 := 39) rfl rfl rfl ?_
    refine JV.getf (p2 := 42) rfl mm_M rfl rfl ?_
    refine JV.ild (p2 := 43) rfl rfl rfl ?_
    refine JV.stk (len := 2) (sem := (s_push (.int 7))) (p2 := 45) rfl rfl rfl ?_
    refine JV.insI (p2 := 48) rfl (Nat.le_of_ble_eq_true rfl) rfl rfl (Nat.le_of_ble_eq_true rfl) rfl (ev_X7_planeAt (by omega) rfl) rfl ?_
    refine JV.ald (p2 := 49) rfl rfl rfl ?_
    refine JV.getf (p2 := 52) rfl mm_M rfl rfl ?_
    refine JV.stk (len := 1) (sem := (s_push (.int 3))) (p2 := 53) rfl rfl rfl ?_
    refine JV.iald (p2 := 54) (j := 3) rfl mm_1 rfl (by omega) (by decide) rfl ?_
    refine JV.ald (p2 := 55) rfl rfl rfl ?_
    refine JV.ild (p2 := 56) rfl rfl rfl ?_
    refine JV.stk (len := 1) (sem := (s_push (.int 3))) (p2 := 57) rfl rfl rfl ?_
    refine JV.invI (p2 := 60) rfl rfl rfl mm_M (Nat.le_of_ble_eq_true rfl) rfl (ev_X7_of (q := q) (w := 3) (by omega) rfl rfl (by omega) (by omega) rfl) ?_
    refine JV.stk (len := 1) (sem := s_isub) (p2 := 61) rfl rfl rfl ?_
    refine JV.iast (p2 := 62) (j := (35 + 10 * q + 7)) rfl mm_1 (pa_at rfl rfl) (by omega) (by decide) (mm_w1 (k := (35 + 10 * q + 7)) rfl) rfl ?_
    refine JV.ald (p2 := 63) rfl rfl rfl ?_
    refine JV.stk (len := 1) (sem := (s_push (.int 3))) (p2 := 64) rfl rfl rfl ?_
    refine JV.ild (p2 := 65) rfl rfl rfl ?_
    refine JV.inv0 (p2 := 68) rfl rfl rfl mm_M (Nat.le_of_ble_eq_true rfl) rfl (ev_X7_writes (by omega) (MW.up (MW.up (fw_X7_takes (t := (ix (x_X7_tugFor m q))) (w := 3) e24 rfl hW (by omega) (by omega) (by decide) (VX_nI hq (by decide))) (by unfold mok; omega)) (by unfold mok; omega)) (by omega) rfl) ?_
    subst hx
    exact JV.ret rfl (fun _ => rfl) rfl rfl
theorem fw_X7_pushes {m : Mem} {q : Nat} {v_q : Int32} {B : Nat} {m0 : Mem} (e_q : v_q = nI q) (hW : MW B m0 m) (hB : B + 0 < 2147483648) (hq : q < 12) (hp : ¬ x_X7_tugFor m q = -1) : MW (B + 0) m0 (x_X7_pushes m q) := by
  subst e_q
  rw [x_X7_pushes_eq]
  unfold y_X7_pushes
  by_cases h7 : (x_X7_of m q 5) = 2
  · rw [if_pos h7]
    have n24 : ¬ x_X7_tugFor (x_X7_buses m q) q = -1 := by first | exact hp | (rw [tf_buses hW.1 hq]; exact hp)
    have e24 : x_X7_tugFor (x_X7_buses m q) q = nI (ix (x_X7_tugFor (x_X7_buses m q) q)) := VX.eq (vx_X7_tugFor (fw_X7_buses (q := q) rfl hW (by omega) (by omega)).1 hq) n24
    have b24 : ix (x_X7_tugFor (x_X7_buses m q) q) < 3 := VX.lt (vx_X7_tugFor (fw_X7_buses (q := q) rfl hW (by omega) (by omega)).1 hq) n24
    exact MW.mono (fw_X7_writes (MW.up (MW.up (fw_X7_takes (t := (ix (x_X7_tugFor (x_X7_buses m q) q))) (w := 3) e24 rfl (fw_X7_buses (q := q) rfl hW (by omega) (by omega)) (by omega) (by omega) (by decide) (VX_nI hq (by decide))) (by unfold mok; omega)) (by unfold mok; omega)) (by omega)) (by omega)
  · rw [if_neg h7]
    have n24 : ¬ x_X7_tugFor m q = -1 := by first | exact hp | (rw [tf_buses hW.1 hq]; exact hp)
    have e24 : x_X7_tugFor m q = nI (ix (x_X7_tugFor m q)) := VX.eq (vx_X7_tugFor hW.1 hq) n24
    have b24 : ix (x_X7_tugFor m q) < 3 := VX.lt (vx_X7_tugFor hW.1 hq) n24
    exact MW.mono (fw_X7_writes (MW.up (MW.up (fw_X7_takes (t := (ix (x_X7_tugFor m q))) (w := 3) e24 rfl hW (by omega) (by omega) (by decide) (VX_nI hq (by decide))) (by unfold mok; omega)) (by unfold mok; omega)) (by omega)) (by omega)
theorem wr_4 {m : Mem} {p1 p2 : Int32} : x_X7_writes m p1 p2 4 = m 4 := by
  have e : ∀ a b, lf_X7_writes_3 a b 87 m 4 = m 4 := by
    intro a b
    rw [lf_X7_writes_3_eq]
    unfold ly_X7_writes_3
    exact itr_inv (P := fun (_ : Nat) (s : Mem) => s 4 = m 4) _ (fun j s _ h => by rw [← h]; rfl) rfl
  rw [x_X7_writes_eq]
  unfold y_X7_writes
  split <;> exact e _ _

theorem asked_pushes {m : Mem} {q : Nat} : asked (x_X7_pushes m q) = asked m := by
  have e : x_X7_pushes m q 4 = m 4 := by
    rw [x_X7_pushes_eq]
    unfold y_X7_pushes
    split
    all_goals
      rw [wr_4, x_X7_takes_eq]
      try rw [x_X7_buses_eq]
      rfl
  have g : ∀ n, asked_ (x_X7_pushes m q) n = asked_ m n := by
    intro n
    induction n with
    | zero => rfl
    | succ n ih =>
      show asked_ (x_X7_pushes m q) n + (if x_X7_pushes m q 4 0 n = 1 then 1 else 0) = asked_ m n + (if m 4 0 n = 1 then 1 else 0)
      rw [ih, e]
  exact g 12
noncomputable def bd_X7_pushbacks_2 (j : Nat) (m : Mem) : Mem := (up3 m 4 0 j 0)
noncomputable def ly_X7_pushbacks_2 (N : Nat) (m : Mem) : Mem := itr (fun jz s => bd_X7_pushbacks_2 jz s) N 0 m
theorem le_X7_pushbacks_2 : ∃ f, f = ly_X7_pushbacks_2 := ⟨ly_X7_pushbacks_2, rfl⟩
noncomputable def lf_X7_pushbacks_2 := Classical.choose le_X7_pushbacks_2
theorem lf_X7_pushbacks_2_eq : lf_X7_pushbacks_2 = ly_X7_pushbacks_2 := Classical.choose_spec le_X7_pushbacks_2
theorem fb_X7_pushbacks_2 {B : Nat} {m0 : Mem} (hB : B + 0 < 2147483648) {j : Nat} {m : Mem} (hjN : j < 12) (hW : MW (B + 0 * j) m0 m) : (MW (B + 0 * (j + 1)) m0 (bd_X7_pushbacks_2 j m)) := by
  unfold bd_X7_pushbacks_2
  exact (MW.mono (MW.upo hW (by decide)) (by omega))
theorem fl_X7_pushbacks_2 {B : Nat} {m0 : Mem} (hB : B + 0 < 2147483648) {m : Mem} {N : Nat} (hNl : N = 12) (hW : MW (B + 0 * 0) m0 m) : (MW (B + 0 * N) m0 (lf_X7_pushbacks_2 N m)) := by
  rw [lf_X7_pushbacks_2_eq]
  unfold ly_X7_pushbacks_2
  exact itr_inv (n := N) (s := m) (P := fun jz s => (MW (B + 0 * jz) m0 s)) (fun jz s => bd_X7_pushbacks_2 jz s) (fun jz s hj hs => fb_X7_pushbacks_2 (B := B) (m0 := m0) hB (j := jz) (m := s) (by omega) hs) hW
theorem lp_X7_pushbacks_2 {d n c s b : Nat} {M : JM} {o : JO} {hf : JH} {B : Nat} {m0 : Mem} (hd : 5 ≤ d) (hB : B + 0 < 2147483648) : ∀ (k j : Nat) (m : Mem), j + k = 12 → (MW (B + 0 * j) m0 m) → JV (Ev mtab mcode d) jcX7_pushbacks (21, [(0, .ref b)], []) (n, c, s, mm b (itr (fun jz s => bd_X7_pushbacks_2 jz s) k j m) M) o hf → JV (Ev mtab mcode d) jcX7_pushbacks (2, [(0, .ref b), (1, .int (nI j))], []) (n, c, s, mm b m M) o hf := by
  intro k
  induction k with
  | zero =>
    intro j m hj hW hc
    refine JV.ild (p2 := 3) rfl rfl rfl ?_
    refine JV.stk (len := 2) (sem := (s_push (.int 12))) (p2 := 5) rfl rfl rfl ?_
    refine JV.brT rfl rfl (by exact nI_le (a := 12) (b := j) (by omega) (by omega)) ?_
    exact JV.keep [0] rfl hc
  | succ k ih =>
    intro j m hj hW hc
    obtain ⟨s1, hx⟩ : ∃ s1, bd_X7_pushbacks_2 j m = s1 := ⟨_, rfl⟩
    have hc2 : JV (Ev mtab mcode d) jcX7_pushbacks (21, [(0, .ref b)], []) (n, c, s, mm b (itr (fun jz s => bd_X7_pushbacks_2 jz s) k (j + 1) s1) M) o hf := by
      subst hx
      exact hc
    clear hc
    have iv := fb_X7_pushbacks_2 (B := B) (m0 := m0) hB (j := j) (m := m) (by omega) hW
    rw [hx] at iv
    unfold bd_X7_pushbacks_2 at hx
    refine JV.ild (p2 := 3) rfl rfl rfl ?_
    refine JV.stk (len := 2) (sem := (s_push (.int 12))) (p2 := 5) rfl rfl rfl ?_
    refine JV.brF (p2 := 8) rfl rfl rfl (by exact nI_ge (a := j) (b := 12) (by omega) (by omega)) ?_
    refine JV.ald (p2 := 9) rfl rfl rfl ?_
    refine JV.getf (p2 := 12) rfl mm_M rfl rfl ?_
    refine JV.ild (p2 := 13) rfl rfl rfl ?_
    refine JV.stk (len := 1) (sem := (s_push (.int 0))) (p2 := 14) rfl rfl rfl ?_
    refine JV.zast (p2 := 15) (j := j) rfl mm_4 rfl (by omega) (by decide) (mm_w4 (k := j) (v := 0) rfl) rfl ?_
    refine JV.iinc (p2 := 18) rfl rfl (nI_1 _) rfl rfl ?_
    refine JV.goto rfl ?_
    subst hx
    exact ih (j + 1) _ (by omega) iv hc2
theorem lq_X7_pushbacks_2 {d n c s b : Nat} {M : JM} {o : JO} {hf : JH} {B : Nat} {m0 : Mem} {m : Mem} (hd : 5 ≤ d) (hB : B + 0 < 2147483648) (hW : MW (B + 0 * 0) m0 m) (hc : JV (Ev mtab mcode d) jcX7_pushbacks (21, [(0, .ref b)], []) (n, c, s, mm b (lf_X7_pushbacks_2 12 m) M) o hf) : JV (Ev mtab mcode d) jcX7_pushbacks (2, [(0, .ref b), (1, .int 0)], []) (n, c, s, mm b m M) o hf := by
  rw [lf_X7_pushbacks_2_eq] at hc
  unfold ly_X7_pushbacks_2 at hc
  exact lp_X7_pushbacks_2 (B := B) (m0 := m0) hd hB 12 0 m (by omega) hW hc
noncomputable def bd_X7_pushbacks_32 (m : Mem) (j : Nat) (c1 : Int32) : Int32 := (if (m 4 0 j) = 0 then (if c1 = (-1) then (nI j) else (if (x_X7_of m j 3) < (x_X7_of m (ix c1) 3) then (nI j) else c1)) else c1)
noncomputable def ly_X7_pushbacks_32 (m : Mem) (N : Nat) (c1 : Int32) : Int32 := itr (fun jz s => bd_X7_pushbacks_32 m jz s) N 0 c1
theorem le_X7_pushbacks_32 : ∃ f, f = ly_X7_pushbacks_32 := ⟨ly_X7_pushbacks_32, rfl⟩
noncomputable def lf_X7_pushbacks_32 := Classical.choose le_X7_pushbacks_32
theorem lf_X7_pushbacks_32_eq : lf_X7_pushbacks_32 = ly_X7_pushbacks_32 := Classical.choose_spec le_X7_pushbacks_32
theorem fb_X7_pushbacks_32 {m : Mem} {j : Nat} {c1 : Int32} (hjN : j < 12) (hb : VX 12 c1) (ha : c1 = -1 ∨ m 4 0 (ix c1) = 0) : (VX 12 (bd_X7_pushbacks_32 m j c1)) ∧ ((bd_X7_pushbacks_32 m j c1) = -1 ∨ m 4 0 (ix (bd_X7_pushbacks_32 m j c1)) = 0) := by
  unfold bd_X7_pushbacks_32
  by_cases h48 : (m 4 0 j) = 0
  · rw [if_pos h48]
    by_cases h53 : c1 = (-1)
    · rw [if_pos h53]
      exact ⟨(by first | assumption | exact VX_nI (by omega) (by decide)), (by first | assumption | (right; rw [ix_nI (by omega)]; assumption))⟩
    · rw [if_neg h53]
      have b62 : ix c1 < 12 := VX.lt hb h53
      by_cases h68 : (x_X7_of m j 3) < (x_X7_of m (ix c1) 3)
      · rw [if_pos h68]
        exact ⟨(by first | assumption | exact VX_nI (by omega) (by decide)), (by first | assumption | (right; rw [ix_nI (by omega)]; assumption))⟩
      · rw [if_neg h68]
        exact ⟨(by first | assumption | exact VX_nI (by omega) (by decide)), (by first | assumption | (right; rw [ix_nI (by omega)]; assumption))⟩
  · rw [if_neg h48]
    exact ⟨(by first | assumption | exact VX_nI (by omega) (by decide)), (by first | assumption | (right; rw [ix_nI (by omega)]; assumption))⟩
theorem fl_X7_pushbacks_32 {m : Mem} {N : Nat} {c1 : Int32} (hNc : N ≤ 12) (hb : VX 12 c1) (ha : c1 = -1 ∨ m 4 0 (ix c1) = 0) : (VX 12 (lf_X7_pushbacks_32 m N c1)) ∧ ((lf_X7_pushbacks_32 m N c1) = -1 ∨ m 4 0 (ix (lf_X7_pushbacks_32 m N c1)) = 0) := by
  rw [lf_X7_pushbacks_32_eq]
  unfold ly_X7_pushbacks_32
  exact itr_inv (n := N) (s := c1) (P := fun jz s => (VX 12 s) ∧ (s = -1 ∨ m 4 0 (ix s) = 0)) (fun jz s => bd_X7_pushbacks_32 m jz s) (fun jz s hj hs => fb_X7_pushbacks_32 (j := jz) (c1 := s) (by omega) hs.1 hs.2) ⟨hb, ha⟩
theorem lp_X7_pushbacks_32 {d n c s b : Nat} {M : JM} {o : JO} {hf : JH} {m : Mem} {N : Nat} (hd : 5 ≤ d) (hNc : N ≤ 12) (hN : m 1 0 2 = nI N) : ∀ (k j : Nat) (c1 : Int32), j + k = N → (VX 12 c1) → (c1 = -1 ∨ m 4 0 (ix c1) = 0) → JV (Ev mtab mcode d) jcX7_pushbacks (83, [(0, .ref b), (1, .int (itr (fun jz s => bd_X7_pushbacks_32 m jz s) k j c1))], []) (n, c, s, mm b m M) o hf → JV (Ev mtab mcode d) jcX7_pushbacks (32, [(0, .ref b), (1, .int c1), (2, .int (nI j))], []) (n, c, s, mm b m M) o hf := by
  intro k
  induction k with
  | zero =>
    intro j c1 hj hb ha hc
    refine JV.ild (p2 := 33) rfl rfl rfl ?_
    refine JV.ald (p2 := 34) rfl rfl rfl ?_
    refine JV.getf (p2 := 37) rfl mm_M rfl rfl ?_
    refine JV.stk (len := 1) (sem := (s_push (.int 2))) (p2 := 38) rfl rfl rfl ?_
    refine JV.iald (p2 := 39) (j := 2) rfl mm_1 rfl (by omega) (by decide) rfl ?_
    refine JV.brT rfl rfl (by rw [hN]; exact nI_le (a := N) (b := j) (by omega) (by omega)) ?_
    exact JV.keep [0, 1] rfl hc
  | succ k ih =>
    intro j c1 hj hb ha hc
    obtain ⟨s1, hx⟩ : ∃ s1, bd_X7_pushbacks_32 m j c1 = s1 := ⟨_, rfl⟩
    have hc2 : JV (Ev mtab mcode d) jcX7_pushbacks (83, [(0, .ref b), (1, .int (itr (fun jz s => bd_X7_pushbacks_32 m jz s) k (j + 1) s1))], []) (n, c, s, mm b m M) o hf := by
      subst hx
      exact hc
    clear hc
    have iv := fb_X7_pushbacks_32 (m := m) (j := j) (c1 := c1) (by omega) hb ha
    rw [hx] at iv
    unfold bd_X7_pushbacks_32 at hx
    refine JV.ild (p2 := 33) rfl rfl rfl ?_
    refine JV.ald (p2 := 34) rfl rfl rfl ?_
    refine JV.getf (p2 := 37) rfl mm_M rfl rfl ?_
    refine JV.stk (len := 1) (sem := (s_push (.int 2))) (p2 := 38) rfl rfl rfl ?_
    refine JV.iald (p2 := 39) (j := 2) rfl mm_1 rfl (by omega) (by decide) rfl ?_
    refine JV.brF (p2 := 42) rfl rfl rfl (by rw [hN]; exact nI_ge (a := j) (b := N) (by omega) (by omega)) ?_
    refine JV.ald (p2 := 43) rfl rfl rfl ?_
    refine JV.getf (p2 := 46) rfl mm_M rfl rfl ?_
    refine JV.ild (p2 := 47) rfl rfl rfl ?_
    refine JV.iald (p2 := 48) (j := j) rfl mm_4 rfl (by omega) (by decide) rfl ?_
    by_cases h48 : (m 4 0 j) = 0
    · rw [if_pos h48] at hx
      refine JV.brF (p2 := 51) rfl rfl rfl (fun e => e h48) ?_
      refine JV.ild (p2 := 52) rfl rfl rfl ?_
      refine JV.stk (len := 1) (sem := (s_push (.int (-1)))) (p2 := 53) rfl rfl rfl ?_
      by_cases h53 : c1 = (-1)
      · rw [if_pos h53] at hx
        refine JV.brT rfl rfl h53 ?_
        refine JV.ild (p2 := 72) rfl rfl rfl ?_
        refine JV.goto rfl ?_
        refine JV.ist (p2 := 77) rfl rfl rfl ?_
        refine JV.iinc (p2 := 80) rfl rfl (nI_1 _) rfl rfl ?_
        refine JV.goto rfl ?_
        subst hx
        exact ih (j + 1) _ (by omega) iv.1 iv.2 hc2
      · rw [if_neg h53] at hx
        refine JV.brF (p2 := 56) rfl rfl rfl h53 ?_
        refine JV.ald (p2 := 57) rfl rfl rfl ?_
        refine JV.ild (p2 := 58) rfl rfl rfl ?_
        refine JV.stk (len := 1) (sem := (s_push (.int 3))) (p2 := 59) rfl rfl rfl ?_
        refine JV.invI (p2 := 62) rfl rfl rfl mm_M (Nat.le_of_ble_eq_true rfl) rfl (ev_X7_of (q := j) (w := 3) (by omega) rfl rfl (by omega) (by omega) rfl) ?_
        have b62 : ix c1 < 12 := VX.lt hb h53
        refine JV.ald (p2 := 63) rfl rfl rfl ?_
        refine JV.ild (p2 := 64) rfl rfl rfl ?_
        refine JV.stk (len := 1) (sem := (s_push (.int 3))) (p2 := 65) rfl rfl rfl ?_
        refine JV.invI (p2 := 68) rfl rfl rfl mm_M (Nat.le_of_ble_eq_true rfl) rfl (ev_X7_of (q := (ix c1)) (w := 3) (by omega) (VX.eq hb h53) rfl (by omega) (by omega) rfl) ?_
        by_cases h68 : (x_X7_of m j 3) < (x_X7_of m (ix c1) 3)
        · rw [if_pos h68] at hx
          refine JV.brF (p2 := 71) rfl rfl rfl (Int32.not_le.mpr h68) ?_
          refine JV.ild (p2 := 72) rfl rfl rfl ?_
          refine JV.goto rfl ?_
          refine JV.ist (p2 := 77) rfl rfl rfl ?_
          refine JV.iinc (p2 := 80) rfl rfl (nI_1 _) rfl rfl ?_
          refine JV.goto rfl ?_
          subst hx
          exact ih (j + 1) _ (by omega) iv.1 iv.2 hc2
        · rw [if_neg h68] at hx
          refine JV.brT rfl rfl (Int32.not_lt.mp h68) ?_
          refine JV.ild (p2 := 76) rfl rfl rfl ?_
          refine JV.ist (p2 := 77) rfl rfl rfl ?_
          refine JV.iinc (p2 := 80) rfl rfl (nI_1 _) rfl rfl ?_
          refine JV.goto rfl ?_
          subst hx
          exact ih (j + 1) _ (by omega) iv.1 iv.2 hc2
    · rw [if_neg h48] at hx
      refine JV.brT rfl rfl h48 ?_
      refine JV.ild (p2 := 76) rfl rfl rfl ?_
      refine JV.ist (p2 := 77) rfl rfl rfl ?_
      refine JV.iinc (p2 := 80) rfl rfl (nI_1 _) rfl rfl ?_
      refine JV.goto rfl ?_
      subst hx
      exact ih (j + 1) _ (by omega) iv.1 iv.2 hc2
theorem lq_X7_pushbacks_32 {d n c s b : Nat} {M : JM} {o : JO} {hf : JH} {m : Mem} {N : Nat} {c1 : Int32} (hd : 5 ≤ d) (hNc : N ≤ 12) (hN : m 1 0 2 = nI N) (hb : VX 12 c1) (ha : c1 = -1 ∨ m 4 0 (ix c1) = 0) (hc : JV (Ev mtab mcode d) jcX7_pushbacks (83, [(0, .ref b), (1, .int (lf_X7_pushbacks_32 m N c1))], []) (n, c, s, mm b m M) o hf) : JV (Ev mtab mcode d) jcX7_pushbacks (32, [(0, .ref b), (1, .int c1), (2, .int 0)], []) (n, c, s, mm b m M) o hf := by
  rw [lf_X7_pushbacks_32_eq] at hc
  unfold ly_X7_pushbacks_32 at hc
  exact lp_X7_pushbacks_32 hd hNc hN N 0 c1 (by omega) hb ha hc
noncomputable def bd_X7_pushbacks_23 (j : Nat) (m : Mem) (c1 : Int32) : Mem × Int32 := (if c1 = (-1) then (m, c1) else (if (lf_X7_pushbacks_32 m (ix (m 1 0 2)) (-1)) = (-1) then (m, (lf_X7_pushbacks_32 m (ix (m 1 0 2)) (-1))) else (if (x_X7_whyNot (up3 m 4 0 (ix (lf_X7_pushbacks_32 m (ix (m 1 0 2)) (-1))) 1) (ix (lf_X7_pushbacks_32 m (ix (m 1 0 2)) (-1)))) = 0 then ((x_X7_pushes (up3 m 4 0 (ix (lf_X7_pushbacks_32 m (ix (m 1 0 2)) (-1))) 1) (ix (lf_X7_pushbacks_32 m (ix (m 1 0 2)) (-1)))), (lf_X7_pushbacks_32 m (ix (m 1 0 2)) (-1))) else ((up3 m 4 0 (ix (lf_X7_pushbacks_32 m (ix (m 1 0 2)) (-1))) 1), (lf_X7_pushbacks_32 m (ix (m 1 0 2)) (-1))))))
noncomputable def ly_X7_pushbacks_23 (N : Nat) (m : Mem) (c1 : Int32) : Mem × Int32 := itr (fun jz s => bd_X7_pushbacks_23 jz s.1 s.2) N 0 (m, c1)
theorem le_X7_pushbacks_23 : ∃ f, f = ly_X7_pushbacks_23 := ⟨ly_X7_pushbacks_23, rfl⟩
noncomputable def lf_X7_pushbacks_23 := Classical.choose le_X7_pushbacks_23
theorem lf_X7_pushbacks_23_eq : lf_X7_pushbacks_23 = ly_X7_pushbacks_23 := Classical.choose_spec le_X7_pushbacks_23
theorem fb_X7_pushbacks_23 {B : Nat} {m0 : Mem} (hB : B + 0 < 2147483648) {j : Nat} {m : Mem} {c1 : Int32} (hjN : j < 13) (hW : MW (B + 0 * j) m0 m) (hA : c1 = -1 ∨ j ≤ asked m) : (MW (B + 0 * (j + 1)) m0 (bd_X7_pushbacks_23 j m c1).1) ∧ ((bd_X7_pushbacks_23 j m c1).2 = -1 ∨ (j + 1) ≤ asked (bd_X7_pushbacks_23 j m c1).1) := by
  unfold bd_X7_pushbacks_23
  by_cases h25 : c1 = (-1)
  · rw [if_pos h25]
    try dsimp only
    exact ⟨(MW.mono hW (by omega)), (by first | exact Or.inl h25 | exact Or.inl h85 | (have q := hA.resolve_left h25; have z := asked_up (m := m) b88 (f88.2.resolve_left h85); right; first | omega | (rw [asked_pushes]; omega)))⟩
  · rw [if_neg h25]
    by_cases h85 : (lf_X7_pushbacks_32 m (ix (m 1 0 2)) (-1)) = (-1)
    · rw [if_pos h85]
      try dsimp only
      exact ⟨(MW.mono hW (by omega)), (by first | exact Or.inl h25 | exact Or.inl h85 | (have q := hA.resolve_left h25; have z := asked_up (m := m) b88 (f88.2.resolve_left h85); right; first | omega | (rw [asked_pushes]; omega)))⟩
    · rw [if_neg h85]
      have f88 := fl_X7_pushbacks_32 (m := m) hW.1.na.2 (Or.inl rfl) (Or.inl rfl)
      have e88 := VX.eq f88.1 h85
      have b88 := VX.lt f88.1 h85
      by_cases h100 : (x_X7_whyNot (up3 m 4 0 (ix (lf_X7_pushbacks_32 m (ix (m 1 0 2)) (-1))) 1) (ix (lf_X7_pushbacks_32 m (ix (m 1 0 2)) (-1)))) = 0
      · rw [if_pos h100]
        try dsimp only
        exact ⟨(MW.mono (fw_X7_pushes (q := (ix (lf_X7_pushbacks_32 m (ix (m 1 0 2)) (-1)))) e88 (MW.upo hW (by decide)) (by omega) (by omega) (why0 h100)) (by omega)), (by first | exact Or.inl h25 | exact Or.inl h85 | (have q := hA.resolve_left h25; have z := asked_up (m := m) b88 (f88.2.resolve_left h85); right; first | omega | (rw [asked_pushes]; omega)))⟩
      · rw [if_neg h100]
        try dsimp only
        exact ⟨(MW.mono (MW.upo hW (by decide)) (by omega)), (by first | exact Or.inl h25 | exact Or.inl h85 | (have q := hA.resolve_left h25; have z := asked_up (m := m) b88 (f88.2.resolve_left h85); right; first | omega | (rw [asked_pushes]; omega)))⟩
theorem fl_X7_pushbacks_23 {B : Nat} {m0 : Mem} (hB : B + 0 < 2147483648) {m : Mem} {c1 : Int32} {N : Nat} (hNl : N = 13) (hW : MW (B + 0 * 0) m0 m) (hA : c1 = -1 ∨ 0 ≤ asked m) : (MW (B + 0 * N) m0 (lf_X7_pushbacks_23 N m c1).1) ∧ ((lf_X7_pushbacks_23 N m c1).2 = -1 ∨ N ≤ asked (lf_X7_pushbacks_23 N m c1).1) := by
  rw [lf_X7_pushbacks_23_eq]
  unfold ly_X7_pushbacks_23
  exact itr_inv (n := N) (s := (m, c1)) (P := fun jz s => (MW (B + 0 * jz) m0 s.1) ∧ (s.2 = -1 ∨ jz ≤ asked s.1)) (fun jz s => bd_X7_pushbacks_23 jz s.1 s.2) (fun jz s hj hs => fb_X7_pushbacks_23 (B := B) (m0 := m0) hB (j := jz) (m := s.1) (c1 := s.2) (by omega) hs.1 hs.2) ⟨hW, hA⟩
theorem lp_X7_pushbacks_23 {d n c s b : Nat} {M : JM} {o : JO} {hf : JH} {B : Nat} {m0 : Mem} (hd : 5 ≤ d) (hB : B + 0 < 2147483648) : ∀ (k j : Nat) (m : Mem) (c1 : Int32), j + k = 13 → (MW (B + 0 * j) m0 m) → (c1 = -1 ∨ j ≤ asked m) → JV (Ev mtab mcode d) jcX7_pushbacks (111, [(0, .ref b), (1, .int ((itr (fun jz s => bd_X7_pushbacks_23 jz s.1 s.2) k j (m, c1)).2))], []) (n, c, s, mm b ((itr (fun jz s => bd_X7_pushbacks_23 jz s.1 s.2) k j (m, c1)).1) M) o hf → JV (Ev mtab mcode d) jcX7_pushbacks (23, [(0, .ref b), (1, .int c1)], []) (n, c, s, mm b m M) o hf := by
  intro k
  induction k with
  | zero =>
    intro j m c1 hj hW hA hc
    have hjN : j = 13 := by omega
    obtain ⟨s1, hx⟩ : ∃ s1, bd_X7_pushbacks_23 j m c1 = s1 := ⟨_, rfl⟩
    unfold bd_X7_pushbacks_23 at hx
    refine JV.ild (p2 := 24) rfl rfl rfl ?_
    refine JV.stk (len := 1) (sem := (s_push (.int (-1)))) (p2 := 25) rfl rfl rfl ?_
    by_cases h25 : c1 = (-1)
    · rw [if_pos h25] at hx
      refine JV.brT rfl rfl h25 ?_
      exact JV.keep [0, 1] rfl hc
    · rw [if_neg h25] at hx
      refine JV.brF (p2 := 28) rfl rfl rfl h25 ?_
      have := asked_le m
      rcases hA with e | e
      · exact absurd e h25
      · omega
  | succ k ih =>
    intro j m c1 hj hW hA hc
    obtain ⟨s1, hx⟩ : ∃ s1, bd_X7_pushbacks_23 j m c1 = s1 := ⟨_, rfl⟩
    have hc2 : JV (Ev mtab mcode d) jcX7_pushbacks (111, [(0, .ref b), (1, .int ((itr (fun jz s => bd_X7_pushbacks_23 jz s.1 s.2) k (j + 1) s1).2))], []) (n, c, s, mm b ((itr (fun jz s => bd_X7_pushbacks_23 jz s.1 s.2) k (j + 1) s1).1) M) o hf := by
      subst hx
      exact hc
    clear hc
    have iv := fb_X7_pushbacks_23 (B := B) (m0 := m0) hB (j := j) (m := m) (c1 := c1) (by omega) hW hA
    rw [hx] at iv
    unfold bd_X7_pushbacks_23 at hx
    refine JV.ild (p2 := 24) rfl rfl rfl ?_
    refine JV.stk (len := 1) (sem := (s_push (.int (-1)))) (p2 := 25) rfl rfl rfl ?_
    by_cases h25 : c1 = (-1)
    · rw [if_pos h25] at hx
      refine JV.brT rfl rfl h25 ?_
      subst hx
      have fx : ∀ jz, (fun jz s => bd_X7_pushbacks_23 jz s.1 s.2) jz (m, c1) = (m, c1) := fun jz => by
        show bd_X7_pushbacks_23 jz m c1 = _
        unfold bd_X7_pushbacks_23
        rw [if_pos h25]
      rw [itr_fix (f := (fun jz s => bd_X7_pushbacks_23 jz s.1 s.2)) (s := (m, c1)) fx] at hc2
      exact JV.keep [0, 1] rfl hc2
    · rw [if_neg h25] at hx
      refine JV.brF (p2 := 28) rfl rfl rfl h25 ?_
      refine JV.stk (len := 1) (sem := (s_push (.int (-1)))) (p2 := 29) rfl rfl rfl ?_
      refine JV.ist (p2 := 30) rfl rfl rfl ?_
      refine JV.stk (len := 1) (sem := (s_push (.int 0))) (p2 := 31) rfl rfl rfl ?_
      refine JV.ist (p2 := 32) rfl rfl rfl ?_
      refine lq_X7_pushbacks_32 (c1 := (-1)) (N := (ix (m 1 0 2))) (m := m) (by omega) hW.1.na.2 hW.1.na.1 (Or.inl rfl) (Or.inl rfl) ?_
      refine JV.ild (p2 := 84) rfl rfl rfl ?_
      refine JV.stk (len := 1) (sem := (s_push (.int (-1)))) (p2 := 85) rfl rfl rfl ?_
      by_cases h85 : (lf_X7_pushbacks_32 m (ix (m 1 0 2)) (-1)) = (-1)
      · rw [if_pos h85] at hx
        refine JV.brT rfl rfl h85 ?_
        subst hx
        exact ih (j + 1) _ _ (by omega) iv.1 iv.2 hc2
      · rw [if_neg h85] at hx
        refine JV.brF (p2 := 88) rfl rfl rfl h85 ?_
        have f88 := fl_X7_pushbacks_32 (m := m) hW.1.na.2 (Or.inl rfl) (Or.inl rfl)
        have e88 := VX.eq f88.1 h85
        have b88 := VX.lt f88.1 h85
        refine JV.ald (p2 := 89) rfl rfl rfl ?_
        refine JV.getf (p2 := 92) rfl mm_M rfl rfl ?_
        refine JV.ild (p2 := 93) rfl rfl rfl ?_
        refine JV.stk (len := 1) (sem := (s_push (.int 1))) (p2 := 94) rfl rfl rfl ?_
        refine JV.zast (p2 := 95) (j := (ix (lf_X7_pushbacks_32 m (ix (m 1 0 2)) (-1)))) rfl mm_4 e88 (by omega) (by decide) (mm_w4 (k := (ix (lf_X7_pushbacks_32 m (ix (m 1 0 2)) (-1)))) (v := 1) rfl) rfl ?_
        refine JV.ald (p2 := 96) rfl rfl rfl ?_
        refine JV.ild (p2 := 97) rfl rfl rfl ?_
        refine JV.invI (p2 := 100) rfl rfl rfl mm_M (Nat.le_of_ble_eq_true rfl) rfl (ev_X7_whyNot (q := (ix (lf_X7_pushbacks_32 m (ix (m 1 0 2)) (-1)))) (by omega) e88 (MW.upo hW (by decide)).1 (by omega) rfl) ?_
        by_cases h100 : (x_X7_whyNot (up3 m 4 0 (ix (lf_X7_pushbacks_32 m (ix (m 1 0 2)) (-1))) 1) (ix (lf_X7_pushbacks_32 m (ix (m 1 0 2)) (-1)))) = 0
        · rw [if_pos h100] at hx
          refine JV.brF (p2 := 103) rfl rfl rfl (fun e => e h100) ?_
          refine JV.ald (p2 := 104) rfl rfl rfl ?_
          refine JV.ild (p2 := 105) rfl rfl rfl ?_
          refine JV.inv0 (p2 := 108) rfl rfl rfl mm_M (Nat.le_of_ble_eq_true rfl) rfl (ev_X7_pushes (q := (ix (lf_X7_pushbacks_32 m (ix (m 1 0 2)) (-1)))) (by omega) e88 (MW.upo hW (by decide)) (by omega) (by omega) (why0 h100) rfl) ?_
          refine JV.goto rfl ?_
          subst hx
          exact ih (j + 1) _ _ (by omega) iv.1 iv.2 hc2
        · rw [if_neg h100] at hx
          refine JV.brT rfl rfl h100 ?_
          subst hx
          exact ih (j + 1) _ _ (by omega) iv.1 iv.2 hc2
theorem lq_X7_pushbacks_23 {d n c s b : Nat} {M : JM} {o : JO} {hf : JH} {B : Nat} {m0 : Mem} {m : Mem} {c1 : Int32} (hd : 5 ≤ d) (hB : B + 0 < 2147483648) (hW : MW (B + 0 * 0) m0 m) (hA : c1 = -1 ∨ 0 ≤ asked m) (hc : JV (Ev mtab mcode d) jcX7_pushbacks (111, [(0, .ref b), (1, .int ((lf_X7_pushbacks_23 13 m c1).2))], []) (n, c, s, mm b ((lf_X7_pushbacks_23 13 m c1).1) M) o hf) : JV (Ev mtab mcode d) jcX7_pushbacks (23, [(0, .ref b), (1, .int c1)], []) (n, c, s, mm b m M) o hf := by
  rw [lf_X7_pushbacks_23_eq] at hc
  unfold ly_X7_pushbacks_23 at hc
  exact lp_X7_pushbacks_23 (B := B) (m0 := m0) hd hB 13 0 m c1 (by omega) hW hA hc
noncomputable def y_X7_pushbacks (m : Mem) : Mem := ((lf_X7_pushbacks_23 13 (lf_X7_pushbacks_2 12 m) 0).1)
theorem xe_X7_pushbacks : ∃ f, f = y_X7_pushbacks := ⟨y_X7_pushbacks, rfl⟩
noncomputable def x_X7_pushbacks := Classical.choose xe_X7_pushbacks
theorem x_X7_pushbacks_eq : x_X7_pushbacks = y_X7_pushbacks := Classical.choose_spec xe_X7_pushbacks
theorem ev_X7_pushbacks {d n c s b : Nat} {m : Mem} {M : JM} {B : Nat} {m0 : Mem} {res : Mem} (hd : 6 ≤ d) (hW : MW B m0 m) (hB : B + 0 < 2147483648) (hx : x_X7_pushbacks m = res) : Ev mtab mcode d 125 [.ref b] (n, c, s, mm b m M) (.inl none) (n, c, s, mm b res M) := by
  obtain ⟨d, rfl⟩ : ∃ e, d = e + 1 := ⟨d - 1, by omega⟩
  rw [x_X7_pushbacks_eq] at hx
  unfold y_X7_pushbacks at hx
  refine jv_mk (m := mX7_pushbacks) (cd := jcX7_pushbacks) rfl rfl (Nat.le_of_ble_eq_true rfl) trivial ?_
  refine JV.stk (len := 1) (sem := (s_push (.int 0))) (p2 := 1) rfl rfl rfl ?_
  refine JV.ist (p2 := 2) rfl rfl rfl ?_
  refine lq_X7_pushbacks_2 (m := m) (B := B) (m0 := m0) (by omega) (by omega) (MW.mono hW (by omega)) ?_
  refine JV.stk (len := 1) (sem := (s_push (.int 0))) (p2 := 22) rfl rfl rfl ?_
  refine JV.ist (p2 := 23) rfl rfl rfl ?_
  refine lq_X7_pushbacks_23 (m := (lf_X7_pushbacks_2 12 m)) (c1 := 0) (B := B) (m0 := m0) (by omega) (by omega) (MW.mono (MW.mono (fl_X7_pushbacks_2 (m := m) (B := B) (m0 := m0) (by omega) (N := 12) rfl (MW.mono hW (by omega))) (B' := B + 0) (by omega)) (by omega)) (Or.inr (Nat.zero_le _)) ?_
  subst hx
  exact JV.ret rfl (fun _ => rfl) rfl rfl
theorem fw_X7_pushbacks {m : Mem} {B : Nat} {m0 : Mem} (hW : MW B m0 m) (hB : B + 0 < 2147483648) : MW (B + 0) m0 (x_X7_pushbacks m) := by
  rw [x_X7_pushbacks_eq]
  unfold y_X7_pushbacks
  exact MW.mono (MW.mono (fl_X7_pushbacks_23 (m := (lf_X7_pushbacks_2 12 m)) (c1 := 0) (B := B) (m0 := m0) (by omega) (N := 13) rfl (MW.mono (MW.mono (fl_X7_pushbacks_2 (m := m) (B := B) (m0 := m0) (by omega) (N := 12) rfl (MW.mono hW (by omega))) (B' := B + 0) (by omega)) (by omega)) (Or.inr (Nat.zero_le _))).1 (B' := B + 0) (by omega)) (by omega)
