/-! the start, and the law's loop -/
section STA
variable {B B' c s j k m L : Nat} {S S' : Sys} {μ : Mem} {w : Nat → Int64} {xs : Nat → Int32}
noncomputable def μ0 : Mem := x_X7_begins mz 3 1
theorem inv_0 : INV 0 S0 μ0 := by
  have f := fw_mz
  have v6 : VN 6 (3 : Int32) := ⟨by decide +kernel, by decide +kernel⟩
  have v3 : VN 3 (1 : Int32) := ⟨by decide +kernel, by decide +kernel⟩
  have uF : ∀ u, 1 ≤ u → u ≤ 6 → S0 u = mF := fun u h1 h6 => by
    unfold S0
    rw [if_neg (by omega), if_neg (by omega)]
  have u7 : S0 7 = mz := rfl
  have z : ix (0 : Int32) = 0 := by decide +kernel
  have fb : ∀ f, f ≠ 1 → μ0 f = mz f := fun f hf => fam_begins hf
  have c0 : S0 0 0 0 0 = 0 := rfl
  refine ⟨⟨by rw [c0]; exact vn_0, fun i hi => ?_, fun u h1 h6 => ?_, by rw [u7]; exact vn_0⟩, by decide, ?_, ?_, fun i j hi hj e => ?_, fun i hi => ?_, ?_, fun z' hz => ?_⟩
  · show VN 3 (nI i)
    exact ⟨by rw [ix_nI (by omega)], by rw [ix_nI (by omega)]; omega⟩
  · rw [uF u h1 h6]
    refine ⟨fk_build f.1 v6 v3, ?_⟩
    show VN 0 (x_X1_build mz 3 1 4 0 0)
    rw [tot_build]
    exact vn_0
  · rw [uF 1 (by decide) (by decide)]
    exact FR.begin' (u := mz) (μ := mz) rfl rfl vn_0 vn_0 v6 (by decide) v3 (by decide)
  · rw [fb 0 (by decide)]
    rfl
  · exact nI_inj (by omega) (by omega) e
  · rw [c0, z] at hi
    exact absurd hi (Nat.not_lt_zero i)
  · rw [u7, fb 0 (by decide)]
    rfl
  · rw [u7] at hz
    have : ix (mz 0 0 0) = 0 := z
    rw [this] at hz
    exact absurd hz (Nat.not_lt_zero z')
theorem js_id {r : Int32 ⊕ String} : jS r S S = S := by
  cases r <;> rfl
theorem and_31 (x : Int32) : ∃ m, m < 32 ∧ x &&& 31 = nI m := by
  refine ⟨(x &&& 31).toBitVec.toNat, ?_, ?_⟩
  · rw [Int32.toBitVec_and, BitVec.toNat_and]
    exact Nat.lt_of_le_of_lt Nat.and_le_right (by decide)
  · apply Int32.toBitVec_inj.mp
    apply BitVec.eq_of_toNat_eq
    unfold nI
    have l : (x &&& 31).toBitVec.toNat < 2 ^ 32 := (x &&& 31).toBitVec.isLt
    show _ = (BitVec.ofNat 32 _).toNat
    rw [BitVec.toNat_ofNat, Nat.mod_eq_of_lt l]
theorem l5 (hL : L ≤ 2560) (hj : j ≤ 513) : nI L - 5 < nI (5 * j) ↔ L < 5 * j + 5 := by
  have e : ∀ a b : Nat, a ≤ 2560 → b ≤ 2565 → ((nI a - 5).toInt = (a : Int) - 5 ∧ (nI b).toInt = b) := by
    intro a b ha hb
    have h1 : (nI a).toInt = a := nI_toInt (by omega)
    have h2 : (nI b).toInt = b := nI_toInt (by omega)
    refine ⟨?_, h2⟩
    have h5 : (5 : Int32).toInt = 5 := by decide +kernel
    rw [Int32.toInt_sub, h1, h5]
    exact Int.bmod_eq_of_le (by omega) (by omega)
  have q := e L (5 * j) hL (by omega)
  rw [Int32.lt_iff_toInt_lt, q.1, q.2]
  omega
abbrev CF (L : Nat) (xs : Nat → Int32) (pc : Nat) (j c s : Nat) (S : Sys) (μ : Mem) (w : Nat → Int64) (hf : JH) : Prop := JV (Ev mtab mcode 11) (jcL_law L xs) (pc, [(0, .ref 0), (1, .ref 1), (2, .ref 183), (3, .ref 190), (4, .int (nI (5 * j)))], []) (191, c, s, lm S μ w) (.inl (some (.int 1))) hf
set_option maxRecDepth 100000 in
theorem law_out (hL : L ≤ 2560) (hj : j ≤ 513) (h : L < 5 * j + 5) : CF L xs 23 j c s S μ w (191, c, s, lm S μ w) := by
  refine JV.ild (p2 := 25) rfl rfl rfl ?_
  refine JV.ald (p2 := 26) rfl rfl rfl ?_
  refine JV.slen (p2 := 27) rfl rfl ?_
  refine JV.stk (len := 1) (sem := (s_push (.int 5))) (p2 := 28) rfl rfl rfl ?_
  refine JV.stk (len := 1) (sem := s_isub) (p2 := 29) rfl rfl rfl ?_
  refine JV.brT rfl rfl (by exact (l5 hL hj).mpr h) ?_
  refine JV.stk (len := 1) (sem := (s_push (.int 1))) (p2 := 1342) rfl rfl rfl ?_
  exact JV.ret rfl (fun _ => rfl) rfl rfl
set_option maxRecDepth 100000 in
theorem law_in {Q : JH → Prop} (hL : L ≤ 2560) (hj : j ≤ 513) (h : ¬ L < 5 * j + 5) {t : Nat} (hm : m < 32) (e : xs (5 * j) &&& 31 = nI m) (ht : [144, 212, 280, 348, 416, 508, 576, 632, 700, 768, 836, 892, 960, 1016, 1072, 1085, 1141, 1154, 1195, 1251, 1264, 1277, 1321].getD m 1335 = t) (kk : ∃ hf, Q hf ∧ CF L xs t j c s S μ w hf) : ∃ hf, Q hf ∧ CF L xs 23 j c s S μ w hf := by
  obtain ⟨hf, hq, kk⟩ := kk
  refine ⟨hf, hq, ?_⟩
  refine JV.ild (p2 := 25) rfl rfl rfl ?_
  refine JV.ald (p2 := 26) rfl rfl rfl ?_
  refine JV.slen (p2 := 27) rfl rfl ?_
  refine JV.stk (len := 1) (sem := (s_push (.int 5))) (p2 := 28) rfl rfl rfl ?_
  refine JV.stk (len := 1) (sem := s_isub) (p2 := 29) rfl rfl rfl ?_
  refine JV.brF (p2 := 32) rfl rfl rfl (by exact fun z => h ((l5 hL hj).mp z)) ?_
  refine JV.ald (p2 := 33) rfl rfl rfl ?_
  refine JV.ild (p2 := 35) rfl rfl rfl ?_
  refine JV.sld (p2 := 36) (a := 5 * j) rfl rfl (by omega) (by omega) rfl ?_
  refine JV.stk (len := 2) (sem := (s_push (.int 31))) (p2 := 38) rfl rfl rfl ?_
  refine JV.stk (len := 1) (sem := s_iand) (p2 := 39) rfl rfl rfl ?_
  refine JV.sw (t := t) rfl ?_ kk
  rw [e, if_neg (nI_pos (by omega)), nI_clamp (by omega)]
  exact ht
set_option maxRecDepth 100000 in
theorem law_loop (hL : L ≤ 2560) : ∀ (k j c s : Nat) (S : Sys) (μ : Mem) (w : Nat → Int64), j + k = 513 → INV (120000 * j) S μ → ∃ hf, (hf.2.1 ≤ c + k ∧ hf.2.2.1 ≤ s + 6 * k) ∧ CF L xs 23 j c s S μ w hf := by
  intro k
  induction k with
  | zero =>
    intro j c s S μ w hk hI
    exact ⟨_, ⟨Nat.le_refl _, Nat.le_refl _⟩, law_out hL (by omega) (by omega)⟩
  | succ k ih =>
    intro j c s S μ w hk hI
    by_cases h : L < 5 * j + 5
    · exact ⟨_, ⟨by show c ≤ _; omega, by show s ≤ _; omega⟩, law_out hL (by omega) h⟩
    have hB : 120000 * (j + 1) + 200000 < 2147483648 := by omega
    have next : ∀ (S' : Sys) (μ' : Mem) (c' s' : Nat) (w' : Nat → Int64), INV (120000 * (j + 1)) S' μ' → c' ≤ c + 1 → s' ≤ s + 6 → ∃ hf : JH, (hf.2.1 ≤ c + (k + 1) ∧ hf.2.2.1 ≤ s + 6 * (k + 1)) ∧ CF L xs 1335 j c' s' S' μ' w' hf := by
      intro S' μ' c' s' w' hI' hc hs
      obtain ⟨hf, ⟨q1, q2⟩, J⟩ := ih (j + 1) c' s' S' μ' w' (by omega) hI'
      refine ⟨hf, ⟨by omega, by omega⟩, ?_⟩
      refine JV.iinc (p2 := 1338) (x := nI (5 * j)) (y := nI (5 * (j + 1))) rfl rfl ?_ rfl rfl ?_
      · rw [show (5 : Int32) = nI 5 from rfl, nI_add]
        congr 1
      refine JV.goto rfl ?_
      exact J
    have hG := hI.gd
    have hj4 : 5 * j + 4 < L := by omega
    have hL2 : L < 2 ^ 31 := by omega
    obtain ⟨m, hm, e⟩ := and_31 (xs (5 * j))
    rcases Nat.lt_or_ge m 23 with l | l
    · obtain rfl | rfl | rfl | rfl | rfl | rfl | rfl | rfl | rfl | rfl | rfl | rfl | rfl | rfl | rfl | rfl | rfl | rfl | rfl | rfl | rfl | rfl | rfl : m = 0 ∨ m = 1 ∨ m = 2 ∨ m = 3 ∨ m = 4 ∨ m = 5 ∨ m = 6 ∨ m = 7 ∨ m = 8 ∨ m = 9 ∨ m = 10 ∨ m = 11 ∨ m = 12 ∨ m = 13 ∨ m = 14 ∨ m = 15 ∨ m = 16 ∨ m = 17 ∨ m = 18 ∨ m = 19 ∨ m = 20 ∨ m = 21 ∨ m = 22 := by omega
      · have C := call_begin (p1 := xs (5 * j + 1)) (p2 := xs (5 * j + 2)) (B' := 120000 * (j + 1)) hI (by omega) hB
        exact law_in hL (by omega) h (t := 144) hm e rfl (lc_0 hL2 hj4 hG C.1 (fun c' s' w' hc hs => next _ _ c' s' w' C.2 hc hs))
      · have C := call_setSpan (p1 := xs (5 * j + 1)) (p2 := xs (5 * j + 2)) (B' := 120000 * (j + 1)) hI (by omega) hB
        exact law_in hL (by omega) h (t := 212) hm e rfl (lc_1 hL2 hj4 hG C.1 (fun c' s' w' hc hs => next _ _ c' s' w' C.2 hc hs))
      · have C := call_setStrength (p1 := xs (5 * j + 1)) (p2 := xs (5 * j + 2)) (B' := 120000 * (j + 1)) hI (by omega) hB
        exact law_in hL (by omega) h (t := 280) hm e rfl (lc_2 hL2 hj4 hG C.1 (fun c' s' w' hc hs => next _ _ c' s' w' C.2 hc hs))
      · have C := call_setCurfew (p1 := xs (5 * j + 1)) (p2 := xs (5 * j + 2)) (B' := 120000 * (j + 1)) hI (by omega) hB
        exact law_in hL (by omega) h (t := 348) hm e rfl (lc_3 hL2 hj4 hG C.1 (fun c' s' w' hc hs => next _ _ c' s' w' C.2 hc hs))
      · have C := call_expect (p1 := xs (5 * j + 1)) (p2 := xs (5 * j + 2)) (p3 := xs (5 * j + 3)) (p4 := xs (5 * j + 4)) (B' := 120000 * (j + 1)) hI (by omega) hB
        exact law_in hL (by omega) h (t := 416) hm e rfl (lc_4 hL2 hj4 hG C.1 (fun c' s' w' hc hs => next _ _ c' s' w' C.2 hc hs))
      · have C := call_setLeaves (p1 := xs (5 * j + 1)) (p2 := xs (5 * j + 2)) (B' := 120000 * (j + 1)) hI (by omega) hB
        exact law_in hL (by omega) h (t := 508) hm e rfl (lc_5 hL2 hj4 hG C.1 (fun c' s' w' hc hs => next _ _ c' s' w' C.2 hc hs))
      · have C := call_pass (p1 := xs (5 * j + 1)) (B' := 120000 * (j + 1)) hI (by omega) hB
        exact law_in hL (by omega) h (t := 576) hm e rfl (lc_6 hL2 hj4 hG C.1 (fun c' s' w' hc hs => next _ _ c' s' w' C.2 hc hs))
      · have C := call_aircraft (p1 := xs (5 * j + 1)) (p2 := xs (5 * j + 2)) (B' := 120000 * (j + 1)) hI (by omega) hB
        exact law_in hL (by omega) h (t := 632) hm e rfl (lc_7 hL2 hj4 hG C.1 (fun c' s' w' hc hs => next _ _ c' s' w' (js_id (S := S) ▸ C.2) hc hs))
      · have C := call_stand (p1 := xs (5 * j + 1)) (p2 := xs (5 * j + 2)) (B' := 120000 * (j + 1)) hI (by omega) hB
        exact law_in hL (by omega) h (t := 700) hm e rfl (lc_8 hL2 hj4 hG C.1 (fun c' s' w' hc hs => next _ _ c' s' w' (js_id (S := S) ▸ C.2) hc hs))
      · have C := call_tug (p1 := xs (5 * j + 1)) (p2 := xs (5 * j + 2)) (B' := 120000 * (j + 1)) hI (by omega) hB
        exact law_in hL (by omega) h (t := 768) hm e rfl (lc_9 hL2 hj4 hG C.1 (fun c' s' w' hc hs => next _ _ c' s' w' (js_id (S := S) ▸ C.2) hc hs))
      · have C := call_value (p1 := xs (5 * j + 1)) (B' := 120000 * (j + 1)) hI (by omega) hB
        exact law_in hL (by omega) h (t := 836) hm e rfl (lc_10 hL2 hj4 hG C.1 (fun c' s' w' hc hs => next _ _ c' s' w' (js_id (S := S) ▸ C.2) hc hs))
      · have C := call_event (p1 := xs (5 * j + 1)) (p2 := xs (5 * j + 2)) (B' := 120000 * (j + 1)) hI (by omega) hB
        exact law_in hL (by omega) h (t := 892) hm e rfl (lc_11 hL2 hj4 hG C.1 (fun c' s' w' hc hs => next _ _ c' s' w' (js_id (S := S) ▸ C.2) hc hs))
      · have C := call_why (p1 := xs (5 * j + 1)) (B' := 120000 * (j + 1)) hI (by omega) hB
        exact law_in hL (by omega) h (t := 960) hm e rfl (lc_12 hL2 hj4 hG C.1 (fun c' s' w' hc hs => next _ _ c' s' w' (js_id (S := S) ▸ C.2) hc hs))
      · have C := call_delayOf (p1 := xs (5 * j + 1)) (B' := 120000 * (j + 1)) hI (by omega) hB
        exact law_in hL (by omega) h (t := 1016) hm e rfl (lc_13 hL2 hj4 hG C.1 (fun c' s' w' hc hs => next _ _ c' s' w' C.2 hc hs))
      · have C := call_minutesToAll (B' := 120000 * (j + 1)) hI (by omega) hB
        obtain ⟨hf, hq, J⟩ := next _ _ c s w C.2 (by omega) (by omega)
        exact law_in hL (by omega) h (t := 1072) hm e rfl ⟨hf, hq, lc_14 hL2 hj4 hG C.1 J⟩
      · have C := call_delaysWithTug (p1 := xs (5 * j + 1)) (B' := 120000 * (j + 1)) hI (by omega) hB
        exact law_in hL (by omega) h (t := 1085) hm e rfl (lc_15 hL2 hj4 hG C.1 (fun c' s' w' hc hs => next _ _ c' s' w' C.2 hc hs))
      · have C := call_bestStand (B' := 120000 * (j + 1)) hI (by omega) hB
        obtain ⟨hf, hq, J⟩ := next _ _ c s w C.2 (by omega) (by omega)
        exact law_in hL (by omega) h (t := 1141) hm e rfl ⟨hf, hq, lc_16 hL2 hj4 hG C.1 J⟩
      · have C := call_used (B' := 120000 * (j + 1)) hI (by omega) hB
        obtain ⟨hf, hq, J⟩ := next _ _ c s w C.2.2 (by omega) (by omega)
        exact law_in hL (by omega) h (t := 1154) hm e rfl ⟨hf, hq, lc_17 hL2 hj4 hG C.1 C.2.1 J⟩
      · have C := call_append (p1 := xs (5 * j + 1)) (B' := 120000 * (j + 1)) hI (by omega) hB
        exact law_in hL (by omega) h (t := 1195) hm e rfl (lc_18 hL2 hj4 hG C.1 (fun c' s' w' hc hs => next _ _ c' s' w' C.2 hc hs))
      · have C := call_clearText (B' := 120000 * (j + 1)) hI (by omega) hB
        obtain ⟨hf, hq, J⟩ := next _ _ c s w C.2 (by omega) (by omega)
        exact law_in hL (by omega) h (t := 1251) hm e rfl ⟨hf, hq, lc_19 hL2 hj4 hG C.1 J⟩
      · have C := call_parse (B' := 120000 * (j + 1)) hI (by omega) hB
        obtain ⟨hf, hq, J⟩ := next _ _ c s w C.2 (by omega) (by omega)
        exact law_in hL (by omega) h (t := 1264) hm e rfl ⟨hf, hq, lc_20 hL2 hj4 hG C.1 J⟩
      · have C := call_undo (B' := 120000 * (j + 1)) hI (by omega) hB
        exact law_in hL (by omega) h (t := 1277) hm e rfl (lc_21 hL2 hj4 hG C.1 (fun c' s' w' hc hs => next _ _ c' s' w' C.2 hc hs))
      · have C := call_digest (B' := 120000 * (j + 1)) hI (by omega) hB
        obtain ⟨hf, hq, J⟩ := next _ _ c s w C.2 (by omega) (by omega)
        exact law_in hL (by omega) h (t := 1321) hm e rfl ⟨hf, hq, lc_22 hL2 hj4 hG C.1 J⟩
    · refine law_in hL (by omega) h (t := 1335) hm e ?_ (next S μ c s w (hI.mono (by omega) hB) (by omega) (by omega))
      have l9 : m = 23 ∨ m = 24 ∨ m = 25 ∨ m = 26 ∨ m = 27 ∨ m = 28 ∨ m = 29 ∨ m = 30 ∨ m = 31 := by omega
      rcases l9 with rfl | rfl | rfl | rfl | rfl | rfl | rfl | rfl | rfl <;> rfl
theorem lm_0 {X Y : JC} : va_up (mm 183 μ0 (va_up (sy S0 (va_up hf0 1 X)) 183 Y)) 190 (.inl (2, 1, .inr (.inl (fun _ => 0)))) = lm S0 μ0 (fun _ => 0) := by
  funext q
  by_cases e : q = 190
  · subst e
    rw [va_up_self, lm_o]
  rw [va_up_ne _ _ e]
  by_cases g : 183 ≤ q ∧ q < 190
  · exact (um_in (L := layM) (b := 183) g).trans (((sy_out (by omega)).trans (um_in (L := layM) (b := 183) g))).symm
  refine (um_out (L := layM) (b := 183) g).trans ?_
  rw [va_up_ne _ _ (by omega)]
  have out : ∀ Z : JM, ¬ (1 ≤ q ∧ q < 183) → sy S0 Z q = Z q := fun Z hz => sy_out (by omega)
  by_cases i : 1 ≤ q ∧ q < 183
  · rcases sy_cases q with h | h | h | h | h | h | h | h | h | h
    · omega
    · rw [sy_atX h, show lm S0 μ0 (fun _ => 0) q = _ from sy_atX h]
    · rw [sy_at1 h, show lm S0 μ0 (fun _ => 0) q = _ from sy_at1 h]
    · rw [sy_at2 h, show lm S0 μ0 (fun _ => 0) q = _ from sy_at2 h]
    · rw [sy_atQ h, show lm S0 μ0 (fun _ => 0) q = _ from sy_atQ h]
    · rw [sy_at3 h, show lm S0 μ0 (fun _ => 0) q = _ from sy_at3 h]
    · rw [sy_at4 h, show lm S0 μ0 (fun _ => 0) q = _ from sy_at4 h]
    · rw [sy_at5 h, show lm S0 μ0 (fun _ => 0) q = _ from sy_at5 h]
    · rw [sy_at6 h, show lm S0 μ0 (fun _ => 0) q = _ from sy_at6 h]
    · rw [sy_at7 h, show lm S0 μ0 (fun _ => 0) q = _ from sy_at7 h]
  · rw [out _ i, show lm S0 μ0 (fun _ => 0) q = _ from out _ i, va_up_ne _ _ (by omega)]
    refine Eq.trans ?_ (um_out (L := layM) (b := 183) g).symm
    show Sum.inr (99, []) = ob _ q
    unfold ob
    rw [if_neg e]
theorem va0 {n : Nat} {l : List (Nat × Value)} (h : l.all (fun q => vfb n q.2) = true) : l.all (fun q => vfb n q.2) = true := h
set_option maxRecDepth 100000 in
theorem law_run (L : Nat) (xs : Nat → Int32) (hL : L ≤ 2560) : ∃ (k : Nat) (hf : JH), hf.2.1 ≤ 601024 ∧ hf.2.2.1 ≤ 7293034 ∧ JG (Ev mtab mcode 11) (jcL_law L xs) k (0, lv_args 0 [.ref 0], []) (1, 0, 0, hf0) (.inl (some (.int 1))) hf := by
  obtain ⟨hf, ⟨q1, q2⟩, J⟩ := law_loop (xs := xs) hL 513 0 190 3469 S0 μ0 (fun _ => 0) rfl inv_0
  have R : JR (Ev mtab mcode 11) (jcL_law L xs) (0, lv_args 0 [.ref 0], []) (1, 0, 0, hf0) (.inl (some (.int 1))) hf := by
    refine JR.new (p2 := 3) rfl rfl rfl rfl ?_
    refine JR.stk (len := 1) (sem := s_dup) (p2 := 4) rfl rfl rfl ?_
    refine JR.ini (p2 := 7) rfl rfl rfl (Nat.le_of_ble_eq_true rfl) rfl (ev_X6_init (d := 5) (va_up_self _ _ _)) rfl ?_
    refine JR.ast (p2 := 8) rfl rfl rfl ?_
    refine JR.new (p2 := 11) rfl rfl rfl rfl ?_
    refine JR.stk (len := 1) (sem := s_dup) (p2 := 12) rfl rfl rfl ?_
    refine JR.ini (p2 := 15) rfl rfl rfl (Nat.le_of_ble_eq_true rfl) rfl (ev_X7_init (d := 7) (b := 183) (va_up_self _ _ _)) rfl ?_
    refine JR.ast (p2 := 16) rfl rfl rfl ?_
    refine JR.stk (len := 1) (sem := (s_push (.int 1))) (p2 := 17) rfl rfl rfl ?_
    refine JR.newl (p2 := 19) (K := 1) rfl rfl rfl (by decide) (by decide) (by decide) rfl ?_
    refine JR.ast (p2 := 20) rfl rfl rfl ?_
    refine JR.mem lm_0 ?_
    refine JR.stk (len := 1) (sem := (s_push (.int 0))) (p2 := 21) rfl rfl rfl ?_
    refine JR.ist (p2 := 23) rfl rfl rfl ?_
    refine J _ (fun q hq => ?_)
    have hq' : q = (0, Value.ref 0) ∨ q = (1, Value.ref 1) ∨ q = (2, Value.ref 183) ∨ q = (3, Value.ref 190) ∨ q = (4, Value.int (nI (5 * 0))) := by simpa using hq
    rcases hq' with rfl | rfl | rfl | rfl | rfl <;> rfl
  obtain ⟨k, hk⟩ := R
  exact ⟨k, hf, by omega, by omega, hk⟩
end STA
