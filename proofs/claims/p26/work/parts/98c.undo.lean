/-! undo and digest -/
section UND
variable {B B' P N q : Nat} {S S' : Sys} {μ ν m t u : Mem} {v x p1 p2 : Int32}
theorem und_25 {n : Nat} (hn : n ≤ 245) : (∀ k, lf_X7_undo_25 n μ 1 0 k = if k < n then μ 2 0 (245 * ix (μ 0 0 0) + k) else μ 1 0 k) ∧ ∀ f, f ≠ 1 → lf_X7_undo_25 n μ f = μ f := by
  rw [lf_X7_undo_25_eq]
  unfold ly_X7_undo_25
  refine itr_inv (n := n) (s := μ) (P := fun j (s : Mem) => (∀ k, s 1 0 k = if k < j then μ 2 0 (245 * ix (μ 0 0 0) + k) else μ 1 0 k) ∧ ∀ f, f ≠ 1 → s f = μ f) (fun jz s => bd_X7_undo_25 jz s) (fun j s hj g => ?_) ⟨fun k => by rw [if_neg (Nat.not_lt_zero k)], fun _ _ => rfl⟩
  refine ⟨fun k => ?_, fun f hf => (up3_fam hf).trans (g.2 f hf)⟩
  show up3 s 1 0 j (s 2 0 (245 * ix (s 0 0 0) + j)) 1 0 k = _
  rw [g.2 2 (by decide), g.2 0 (by decide)]
  by_cases h : k = j
  · subst h
    rw [up3_self, if_pos (Nat.lt_succ_self k)]
  · rw [up3_k h, g.1]
    by_cases l : k < j
    · rw [if_pos l, if_pos (by omega)]
    · rw [if_neg l, if_neg (by omega)]
theorem call_undo (h : INV B S μ) (hb : B ≤ B') (hB : B' + 200000 < 2147483648) : ST B' ct_L_undo S (x_X6_undo S).2 (x_X6_undo S).1 (x_X7_undo μ) := by
  have sk := sk_undo h.1
  obtain ⟨hK, hB0, f, c, i, r, t, tx⟩ := h
  rw [x_X6_undo_eq] at sk ⊢
  rw [x_X7_undo_eq]
  unfold y_X6_undo at sk ⊢
  unfold y_X7_undo
  rw [← c]
  by_cases g : S 0 0 0 0 = 0
  · rw [if_pos g, if_pos g]
    exact ST.throw ⟨hK, hB0, f, c, i, r, t, tx⟩ hb hB (by unfold ct_L_undo; simp) (by decide)
  · rw [if_neg g] at sk ⊢
    rw [if_neg g]
    have v3 := vn_41 hK.1 g
    have b4 := hK.1.2
    have n0 : ix (S 0 0 0 0) ≠ 0 := fun z => g (by rw [hK.1.1, z]; rfl)
    have e1 : ix (S 0 0 0 0 - 1) = ix (S 0 0 0 0) - 1 := by
      have := nI_subE hK.1.1 (show (1 : Int32) = nI 1 from rfl) (by omega)
      rw [this, ix_nI (by omega)]
    have u25 := und_25 (μ := up3 μ 0 0 0 (S 0 0 0 0 - 1)) (n := 245) (Nat.le_refl _)
    rw [up3_self] at u25
    have w0 : lf_X7_undo_25 245 (up3 μ 0 0 0 (S 0 0 0 0 - 1)) 0 0 0 = S 0 0 0 0 - 1 := by rw [u25.2 0 (by decide), up3_self]
    rw [w0]
    have p4 : ∀ i, i < 4 → ix (S 0 1 0 i) < 4 := fun i hi => vn_u4 (hK.2.1 i hi)
    have hI : INV B' (us (us S 0 (up3 (S 0) 0 0 0 (S 0 0 0 0 - 1))) 1 (x_X1_copyFrom (S 1) (S (3 + ix (S 0 1 0 (ix (S 0 0 0 0 - 1))))))) (lf_X7_undo_25 245 (up3 μ 0 0 0 (S 0 0 0 0 - 1))) := by
     refine ⟨SK.mono sk hb, hB, ?_, ?_, fun i' j a b => ?_, fun i' hi => ?_, ?_, fun z hz => ?_⟩
     · rw [us_same]
       refine ((r (ix (S 0 0 0 0 - 1)) (by omega)).copy).congr (fun k hk => ?_)
       rw [u25.1, if_pos hk, up3_fam (by decide)]
     · rw [us_ne (by decide), us_same, up3_self, w0]
     · have es : us (us S 0 (up3 (S 0) 0 0 0 (S 0 0 0 0 - 1))) 1 (x_X1_copyFrom (S 1) (S (3 + ix (S 0 1 0 (ix (S 0 0 0 0 - 1)))))) 0 = up3 (S 0) 0 0 0 (S 0 0 0 0 - 1) := by rw [us_ne (by decide), us_same]
       rw [es, up3_ne (by simp), up3_ne (by simp)]
       exact i i' j a b
     · have es : us (us S 0 (up3 (S 0) 0 0 0 (S 0 0 0 0 - 1))) 1 (x_X1_copyFrom (S 1) (S (3 + ix (S 0 1 0 (ix (S 0 0 0 0 - 1)))))) 0 = up3 (S 0) 0 0 0 (S 0 0 0 0 - 1) := by rw [us_ne (by decide), us_same]
       rw [es] at hi ⊢
       rw [up3_self] at hi
       rw [up3_ne (by simp), us_ne (by omega), us_ne (by omega), u25.2 2 (by decide), up3_fam (f := 0) (f' := 2) (by decide)]
       exact r i' (by omega)
     · rw [us_ne (by decide), us_ne (by decide), u25.2 0 (by decide), up3_ne (by decide)]
       exact t
     · rw [us_ne (by decide), us_ne (by decide)] at hz ⊢
       rw [u25.2 5 (by decide), up3_fam (by decide)]
       exact tx z hz
    exact ST.fine hI
/-! digest -/
theorem itr_flat {T : Type} (g : Nat → T → T) (K : Nat) (c : T) : itr g (K * N) 0 c = itr (fun j c => itr (fun k c => g (K * j + k) c) K 0 c) N 0 c := by
  have sh : ∀ (n a b : Nat) (f : Nat → T → T) (c : T), itr f n (a + b) c = itr (fun k c => f (a + k) c) n b c := by
    intro n
    induction n with
    | zero => exact fun _ _ _ _ => rfl
    | succ n ih =>
      intro a b f c
      show itr f n (a + b + 1) (f (a + b) c) = itr (fun k c => f (a + k) c) n (b + 1) (f (a + b) c)
      rw [Nat.add_assoc, ih]
  have ap : ∀ (n k j : Nat) (f : Nat → T → T) (c : T), itr f (n + k) j c = itr f k (j + n) (itr f n j c) := by
    intro n
    induction n with
    | zero =>
      intro k j f c
      rw [Nat.zero_add]
      rfl
    | succ n ih =>
      intro k j f c
      rw [show n + 1 + k = (n + k) + 1 by omega]
      show itr f (n + k) (j + 1) (f j c) = itr f k (j + (n + 1)) (itr f n (j + 1) (f j c))
      rw [ih, show j + 1 + n = j + (n + 1) by omega]
  induction N with
  | zero => rfl
  | succ n ih =>
    rw [Nat.mul_succ, ap, ih, itr_snoc, Nat.zero_add]
    have := sh K (K * n) 0 g (itr (fun j c => itr (fun k c => g (K * j + k) c) K 0 c) n 0 c)
    rw [Nat.add_zero] at this
    exact this
theorem itr_cg {T : Type} {f g : Nat → T → T} {n : Nat} {c : T} (h : ∀ j c, j < n → f j c = g j c) : itr f n 0 c = itr g n 0 c :=
  itr_rel (n := n) (s := c) (t := c) (P := fun _ (a b : T) => a = b) f g (fun j a b hj e => by subst e; exact h j a hj) rfl
theorem call_digest (h : INV B S μ) (hb : B + 117100 ≤ B') (hB : B' + 200000 < 2147483648) : (x_X6_digest S).2 = (x_X7_digest μ).2 ∧ INV B' (x_X6_digest S).1 (x_X7_digest μ).1 := by
  have h1 : INV B S (up3 μ 0 0 1 0) := h.o1
  have em : up3 μ 0 0 1 0 1 = μ 1 := up3_fam (by decide)
  rw [x_X6_digest_eq, x_X7_digest_eq]
  unfold y_X6_digest y_X7_digest
  generalize up3 μ 0 0 1 0 = ω at h1 em ⊢
  have M := mins_ok h1 hb hB
  have hT : S 7 0 0 0 = ω 0 0 2 := h1.2.2.2.2.2.2.1
  have hF := h1.2.2.1
  have hB0 := h1.2.1
  have hv := h1.vt
  have b6 := hF.2.1.ns.2
  have b3 := hF.2.1.nt.2
  have b12 := hF.2.1.na.2
  have c0 : (x_X6_minutesToAll S).1 0 0 0 0 = (x_X7_minutesIf ω).1 0 0 0 := by
    rw [M.2.2.1 0 (by decide), M.2.2.2]
    exact h1.2.2.2.1
  have e7 : ix (ω 1 0 7) = min (ix (S 1 4 0 0)) 30 := by rw [hF.1.l.1, ix_nI (by omega)]
  have l1 : ∀ c, lf_X6_digest_15 S 16 c = lf_X7_digest_17 ω 16 c := fun c => by
    rw [lf_X6_digest_15_eq, lf_X7_digest_17_eq]
    unfold ly_X6_digest_15 ly_X7_digest_17
    refine itr_cg (fun j c hj => ?_)
    unfold bd_X6_digest_15 bd_X7_digest_17
    rw [an_V h1.rr hv (by omega) hj]
  have l2 : ∀ c, lf_X6_digest_45 S (ix (S 1 0 0 0)) c = lf_X7_digest_44 ω (4 * ix (ω 1 0 0)) c := fun c => by
    rw [lf_X6_digest_45_eq, lf_X7_digest_44_eq, ← hF.1.c (k := 0) (by decide)]
    unfold ly_X6_digest_45 ly_X7_digest_44
    rw [itr_flat (fun jz s => bd_X7_digest_44 ω jz s) 4 c]
    refine itr_cg (fun j c hj => ?_)
    unfold bd_X6_digest_45
    rw [lf_X6_digest_59_eq]
    unfold ly_X6_digest_59
    refine itr_cg (fun k c hk => ?_)
    unfold bd_X6_digest_59 bd_X7_digest_44
    have d1 : nI (4 * j + k) / 4 = nI j := by
      rw [show (4 : Int32) = nI 4 from rfl, pk_div (by omega) (by omega) (by omega)]
      congr 1
      omega
    have d2 : nI (4 * j + k) - nI (4 * j + k) / 4 * 4 = nI k := by
      rw [d1, show (4 : Int32) = nI 4 from rfl, pk_mul, pk_sub (by omega)]
      congr 1
      omega
    rw [d2, show (4 * j + k) / 4 = j by omega, an_S h1.rr hj]
  have l3 : ∀ c, lf_X6_digest_97 S (ix (S 1 0 0 1)) c = lf_X7_digest_82 ω (5 * ix (ω 1 0 1)) c := fun c => by
    rw [lf_X6_digest_97_eq, lf_X7_digest_82_eq, ← hF.1.c (k := 1) (by decide)]
    unfold ly_X6_digest_97 ly_X7_digest_82
    rw [itr_flat (fun jz s => bd_X7_digest_82 ω jz s) 5 c]
    refine itr_cg (fun j c hj => ?_)
    unfold bd_X6_digest_97
    rw [lf_X6_digest_111_eq]
    unfold ly_X6_digest_111
    refine itr_cg (fun k c hk => ?_)
    unfold bd_X6_digest_111 bd_X7_digest_82
    rw [an_T hk, hF.1.t hj hk, Nat.add_assoc]
  have l4 : ∀ c, lf_X6_digest_153 S (ix (S 1 0 0 2)) c = lf_X7_digest_119 ω (ix (ω 1 0 2)) c := fun c => by
    rw [lf_X6_digest_153_eq, lf_X7_digest_119_eq, ← hF.1.c (k := 2) (by decide)]
    unfold ly_X6_digest_153 ly_X7_digest_119
    refine itr_cg (fun j c hj => ?_)
    unfold bd_X6_digest_153 bd_X7_digest_119
    have e : lf_X6_digest_167 S j 10 c = lf_X7_digest_132 ω j 10 c := by
      rw [lf_X6_digest_167_eq, lf_X7_digest_132_eq]
      unfold ly_X6_digest_167 ly_X7_digest_132
      refine itr_cg (fun k c hk => ?_)
      unfold bd_X6_digest_167 bd_X7_digest_132
      rw [an_A hk, of_eq, hF.1.a hj hk]
    rw [e, wn_eq h1.rr hj]
  have l5 : ∀ c, lf_X6_digest_226 S (min (ix (S 1 4 0 0)) 30) c = lf_X7_digest_181 ω (3 * ix (ω 1 0 7)) c := fun c => by
    rw [lf_X6_digest_226_eq, lf_X7_digest_181_eq, e7]
    unfold ly_X6_digest_226 ly_X7_digest_181
    rw [itr_flat (fun jz s => bd_X7_digest_181 ω jz s) 3 c]
    refine itr_cg (fun j c hj => ?_)
    unfold bd_X6_digest_226
    rw [lf_X6_digest_243_eq]
    unfold ly_X6_digest_243
    refine itr_cg (fun k c hk => ?_)
    unfold bd_X6_digest_243 bd_X7_digest_181
    rw [an_E hF.1 hv (by omega) hj hk, Nat.add_assoc]
  refine ⟨?_, M.2.1⟩
  dsimp only
  rw [l1, l2, l3, l4, l5, c0, M.1, hT, em]
end UND
