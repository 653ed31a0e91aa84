section JVD
variable {E : JE} {cd : List (Nat × JA)} {pc p2 : Nat} {l : List (Nat × Value)} {st r : List Value} {h h' hf : JH} {o : JO}
theorem JV.dadd {x y : UInt64} (hl : jlk cd pc = some (a_stk 1 s_dadd)) (hn : jnn (FP.dadd x y) = true) (hp : pc + 1 = p2) (k : JV E cd (p2, l, .double (FP.dadd x y) :: r) h o hf) : JV E cd (pc, l, .double y :: .double x :: r) h o hf := JV.stk hl (by unfold s_dadd; exact if_pos hn) hp k
theorem JV.ddiv {x y : UInt64} (hl : jlk cd pc = some (a_stk 1 s_ddiv)) (hn : jnn (FP.ddiv x y) = true) (hp : pc + 1 = p2) (k : JV E cd (p2, l, .double (FP.ddiv x y) :: r) h o hf) : JV E cd (pc, l, .double y :: .double x :: r) h o hf := JV.stk hl (by unfold s_ddiv; exact if_pos hn) hp k
end JVD
theorem jnn_i2d (x : Int32) : jnn (FP.i2d x) = true := dq_i2d x
theorem du_0 : FP.dconst0 = FP.i2d (nI 0) := dq_0
theorem du_add {S : Nat} {x : Int32} (hx : VN 13000 x) (hS : S ≤ 100000) : FP.dadd (FP.i2d (nI S)) (FP.i2d x) = FP.i2d (nI (S + ix x)) := by
  conv => lhs; rw [hx.1]
  exact dq_add hS hx.2
theorem du_up {j : Nat} {c : UInt64} {x : Int32} (hd : ∃ S : Nat, S ≤ 13000 * j ∧ c = FP.i2d (nI S)) (hx : VN 13000 x) (hj : j < 6) : ∃ S : Nat, S ≤ 13000 * (j + 1) ∧ FP.dadd c (FP.i2d x) = FP.i2d (nI S) := by
  obtain ⟨S, h1, rfl⟩ := hd
  exact ⟨S + ix x, by have := hx.2; omega, du_add hx (by omega)⟩
theorem du_nn {j : Nat} {c : UInt64} {x : Int32} (hd : ∃ S : Nat, S ≤ 13000 * j ∧ c = FP.i2d (nI S)) (hx : VN 13000 x) (hj : j < 6) : jnn (FP.dadd c (FP.i2d x)) = true := by
  obtain ⟨S, -, e⟩ := du_up hd hx hj
  rw [e]
  exact jnn_i2d _
theorem du_div {j : Nat} {c : UInt64} {y : Int32} (hd : ∃ S : Nat, S ≤ 13000 * j ∧ c = FP.i2d (nI S)) (hy : ¬ y = 0) : jnn (FP.ddiv c (FP.i2d y)) = true := by
  obtain ⟨S, -, rfl⟩ := hd
  exact dq_div _ hy
theorem du_mul {a t : Int32} (ha : VN 6 a) (ht : VN 13000 t) (h1 : ¬ a = 0) (h2 : ¬ t = 0) : ¬ a * t = 0 := by
  have ba := ha.2
  have bt := ht.2
  have n1 : ix a ≠ 0 := fun e => h1 (by rw [ha.1, e]; rfl)
  have n2 : ix t ≠ 0 := fun e => h2 (by rw [ht.1, e]; rfl)
  rw [ha.1, ht.1, pk_mul]
  intro e
  have l : ix a * ix t ≤ 6 * 13000 := Nat.mul_le_mul ba bt
  have := congrArg ix e
  rw [ix_nI (by omega)] at this
  exact (Nat.mul_ne_zero n1 n2) this
theorem mk_o {m : Mem} {i k : Nat} {v : Int32} (h : MK m) : MK (up3 m 0 i k v) := h.congr (fun q _ => up3_ne (by simp))
/-! the model's text -/
def TW (B : Nat) (m0 m : Mem) : Prop := B = B ∧ (VN 90 (m 0 0 3) ∧ VN 90 (m 0 0 2) ∧ VN 12 (m 0 0 4)) ∧ m 0 0 2 = m0 0 0 2 ∧ m 0 0 0 = m0 0 0 0 ∧ ∀ f, f ≠ 0 → f ≠ 6 → m f = m0 f
def TU (B : Nat) (m0 m : Mem) : Prop := B = B ∧ VN 90 (m 0 0 2) ∧ m 0 0 2 = m0 0 0 2 ∧ m 0 0 0 = m0 0 0 0 ∧ ∀ f, f ≠ 0 → f ≠ 6 → m f = m0 f
theorem vn_0 {K : Nat} : VN K 0 := by
  have e : ix 0 = 0 := by decide +kernel
  unfold VN
  rw [e]
  exact ⟨by decide +kernel, Nat.zero_le _⟩
section TWS
variable {B B' k : Nat} {m0 m : Mem} {v : Int32}
theorem TW.mono (h : TW B m0 m) (_ : B ≤ B') : TW B' m0 m := ⟨rfl, h.2⟩
theorem TW.mono0 (h : TW B m0 m) : TW 0 m0 m := ⟨rfl, h.2⟩
theorem TW.o (h : TW B m0 m) : TW B m0 (up3 m 0 0 5 v) := ⟨rfl, h.2.1, h.2.2.1, h.2.2.2.1, fun f h0 h6 => (up3_fam h0).trans (h.2.2.2.2 f h0 h6)⟩
theorem TW.r (h : TW B m0 m) : TW B m0 (up3 m 6 0 k v) := ⟨rfl, h.2.1, h.2.2.1, h.2.2.2.1, fun f h0 h6 => (up3_fam h6).trans (h.2.2.2.2 f h0 h6)⟩
theorem TW.p (h : TW B m0 m) (hv : VN 90 v) : TW B m0 (up3 m 0 0 3 v) := ⟨rfl, ⟨hv, h.2.1.2⟩, h.2.2.1, h.2.2.2.1, fun f h0 h6 => (up3_fam h0).trans (h.2.2.2.2 f h0 h6)⟩
theorem TW.c (h : TW B m0 m) (hv : VN 12 v) : TW B m0 (up3 m 0 0 4 v) := ⟨rfl, ⟨h.2.1.1, h.2.1.2.1, hv⟩, h.2.2.1, h.2.2.2.1, fun f h0 h6 => (up3_fam h0).trans (h.2.2.2.2 f h0 h6)⟩
theorem TU.i (h : TU B m0 m) : TW B m0 (up3 (up3 m 0 0 3 0) 0 0 4 0) := ⟨rfl, ⟨vn_0, h.2.1, vn_0⟩, h.2.2.1, h.2.2.2.1, fun f h0 h6 => ((up3_fam h0).trans (up3_fam h0)).trans (h.2.2.2.2 f h0 h6)⟩
theorem vn_nn {K : Nat} {x : Int32} (h : VN K x) (hK : K < 2 ^ 31) : ¬ x < 0 := by
  rw [h.1]
  exact nI_pos (by have := h.2; omega)
theorem tw_nn (h : TW B m0 m) : ¬ m 0 0 3 < 0 := vn_nn h.2.1.1 (by decide)
theorem vn_lt1 {K : Nat} {x y : Int32} (hx : VN K x) (hy : VN K y) (hK : K < 2 ^ 31) (h : x < y) : VN K (x + 1) := by
  have bx := hx.2
  have by_ := hy.2
  have l : ix x < ix y := by
    rw [hx.1, hy.1] at h
    exact (nI_ltI (by omega) (by omega)).mp h
  have e : x + 1 = nI (ix x + 1) := by rw [← nI_1, ← hx.1]
  unfold VN
  rw [e, ix_nI (by omega)]
  exact ⟨rfl, by omega⟩
theorem tw_up (h : TW B m0 m) (hl : m 0 0 3 < m 0 0 2) : VN 90 (m 0 0 3 + 1) := vn_lt1 h.2.1.1 h.2.1.2.1 (by decide) hl
theorem here_lt (h : ¬ x_X7_here m = -1) : m 0 0 3 < m 0 0 2 := by
  rw [x_X7_here_eq] at h
  unfold y_X7_here at h
  split at h
  · assumption
  · exact absurd rfl h
theorem in_here {p q : Int64} (hp : (-1 : Int64) < p) (h : x_X7_in (x_X7_here m).toInt64 p q = true) : m 0 0 3 < m 0 0 2 := here_lt (fun e => by
  obtain ⟨h1, -⟩ := in_of h
  rw [e] at h1
  exact h1 hp)
theorem ad0 (x : Int32) : x = x + nI 0 := by
  have : nI 0 = 0 := rfl
  rw [this]
  simp
theorem ad1 (x : Int32) (j : Nat) : x + nI j + 1 = x + nI (j + 1) := by
  rw [Int32.add_assoc, nI_1]
theorem tn_up {w : Int32} {j : Nat} (h : m 0 0 3 = w + nI j) : m 0 0 3 + 1 = w + nI (j + 1) := by rw [h, ad1]
theorem w_nlt {w : Int32} {g : Nat} (hw : VN 90 w) (hg : g ≤ 4) : ¬ w + nI 4 < w + nI g := by
  have b := hw.2
  rw [hw.1, nI_add, nI_add, nI_ltI (by omega) (by omega)]
  omega
theorem fw_X7_passes {p1 : Int32} (h : TW B m0 m) (hp : ¬ p1 = -1) : TW B m0 (x_X7_passes m p1).1 := by
  rw [x_X7_passes_eq]
  unfold y_X7_passes
  split
  · rename_i e
    exact TW.p h (tw_up h (here_lt (fun q => hp (e.symm.trans q))))
  · refine TW.p h ?_
    rw [show m 0 0 3 + 0 = m 0 0 3 by simp]
    exact h.2.1.1
theorem fw_X7_readsDigit {a : Nat} {p2 : Int32} (h : TW B m0 m) : TW B m0 (x_X7_readsDigit m a p2).1 := by
  rw [x_X7_readsDigit_eq]
  unfold y_X7_readsDigit
  split
  · rename_i e
    exact TW.p (TW.r h) (tw_up (m := up3 m 6 0 a _) (TW.r h) (in_here (m := m) (by decide) e))
  · refine TW.p (TW.r h) ?_
    show VN 90 (m 0 0 3 + 0)
    rw [show m 0 0 3 + 0 = m 0 0 3 by simp]
    exact h.2.1.1
theorem r4_r : up3 m 6 0 k v 0 0 4 = m 0 0 4 := rfl
theorem r4_o : up3 m 0 0 5 v 0 0 4 = m 0 0 4 := rfl
theorem r4_p : up3 m 0 0 3 v 0 0 4 = m 0 0 4 := rfl
theorem r4_passes {p1 : Int32} : (x_X7_passes m p1).1 0 0 4 = m 0 0 4 := by
  rw [x_X7_passes_eq]
  unfold y_X7_passes
  split <;> rfl
theorem r4_readsDigit {a : Nat} {p2 : Int32} : (x_X7_readsDigit m a p2).1 0 0 4 = m 0 0 4 := by
  rw [x_X7_readsDigit_eq]
  unfold y_X7_readsDigit
  split <;> rfl
theorem vn_lt12 {x : Int32} (h : VN 12 x) (b : ix x < 12) : VN 12 (x + 1) := by
  have e : x + 1 = nI (ix x + 1) := by rw [← nI_1, ← h.1]
  unfold VN
  rw [e, ix_nI (by omega)]
  exact ⟨rfl, by omega⟩
theorem rp_up {x : Int32} (e : x = m 0 0 4) (h : TW B m0 m) (b : ix (m 0 0 4) < 12) : VN 12 (x + 1) := by
  rw [e]
  exact vn_lt12 h.2.1.2.2 b
theorem rp_0 (h : TW B m0 m) : VN 12 (m 0 0 4 + 0) := by
  rw [show m 0 0 4 + 0 = m 0 0 4 by simp]
  exact h.2.1.2.2
theorem vn_n13 {x : Int32} (h : VN 12 x) : ¬ x = nI 13 := fun e => by
  have b := h.2
  rw [e, ix_nI (by decide)] at b
  omega
end TWS
noncomputable def bd_X7_used_9 (m : Mem) (j : Nat) (c1 : UInt64) : UInt64 := (FP.dadd c1 (FP.i2d (m 1 0 (8 + 2 * j + 1))))
noncomputable def ly_X7_used_9 (m : Mem) (N : Nat) (c1 : UInt64) : UInt64 := itr (fun jz s => bd_X7_used_9 m jz s) N 0 c1
theorem le_X7_used_9 : ∃ f, f = ly_X7_used_9 := ⟨ly_X7_used_9, rfl⟩
noncomputable def lf_X7_used_9 := Classical.choose le_X7_used_9
theorem lf_X7_used_9_eq : lf_X7_used_9 = ly_X7_used_9 := Classical.choose_spec le_X7_used_9
theorem fb_X7_used_9 {m : Mem} (hF : MK m) (hU : ∀ j, j < 6 → VN 13000 (m 1 0 (8 + 2 * j + 1))) {j : Nat} {c1 : UInt64} (hjN : j < 6) (hq : ∃ S : Nat, S ≤ 13000 * j ∧ c1 = FP.i2d (nI S)) : (∃ S : Nat, S ≤ 13000 * (j + 1) ∧ (bd_X7_used_9 m j c1) = FP.i2d (nI S)) := by
  unfold bd_X7_used_9
  exact (du_up hq (hU _ (by omega)) (by omega))
theorem fl_X7_used_9 {m : Mem} {N : Nat} (hF : MK m) (hU : ∀ j, j < 6 → VN 13000 (m 1 0 (8 + 2 * j + 1))) {c1 : UInt64} (hNc : N ≤ 6) (hq : ∃ S : Nat, S ≤ 13000 * 0 ∧ c1 = FP.i2d (nI S)) : (∃ S : Nat, S ≤ 13000 * N ∧ (lf_X7_used_9 m N c1) = FP.i2d (nI S)) := by
  rw [lf_X7_used_9_eq]
  unfold ly_X7_used_9
  exact itr_inv (n := N) (s := c1) (P := fun jz s => (∃ S : Nat, S ≤ 13000 * jz ∧ s = FP.i2d (nI S))) (fun jz s => bd_X7_used_9 m jz s) (fun jz s hj hs => fb_X7_used_9 hF hU (j := jz) (c1 := s) (by omega) hs) hq
theorem lp_X7_used_9 {d n c s b : Nat} {M : JM} {o : JO} {hf : JH} {m : Mem} {N : Nat} (hd : 1 ≤ d) (hF : MK m) (hU : ∀ j, j < 6 → VN 13000 (m 1 0 (8 + 2 * j + 1))) (hNc : N ≤ 6) (hN : m 1 0 0 = nI N) : ∀ (k j : Nat) (c1 : UInt64), j + k = N → (∃ S : Nat, S ≤ 13000 * j ∧ c1 = FP.i2d (nI S)) → JV (Ev mtab mcode d) jcX7_used (39, [(0, .ref b), (1, .double (itr (fun jz s => bd_X7_used_9 m jz s) k j c1))], []) (n, c, s, mm b m M) o hf → JV (Ev mtab mcode d) jcX7_used (9, [(0, .ref b), (1, .double c1), (3, .int (nI j))], []) (n, c, s, mm b m M) o hf := by
  intro k
  induction k with
  | zero =>
    intro j c1 hj hq hc
    refine JV.ild (p2 := 10) rfl rfl rfl ?_
    refine JV.ald (p2 := 11) rfl rfl rfl ?_
    refine JV.getf (p2 := 14) rfl mm_M rfl rfl ?_
    refine JV.stk (len := 1) (sem := (s_push (.int 0))) (p2 := 15) rfl rfl rfl ?_
    refine JV.iald (p2 := 16) (j := 0) rfl mm_1 rfl (by omega) (by decide) rfl ?_
    refine JV.brT rfl rfl (by rw [hN]; exact nI_le (a := N) (b := j) (by omega) (by omega)) ?_
    exact JV.keep [0, 1] rfl hc
  | succ k ih =>
    intro j c1 hj hq hc
    obtain ⟨s1, hx⟩ : ∃ s1, bd_X7_used_9 m j c1 = s1 := ⟨_, rfl⟩
    have hc2 : JV (Ev mtab mcode d) jcX7_used (39, [(0, .ref b), (1, .double (itr (fun jz s => bd_X7_used_9 m jz s) k (j + 1) s1))], []) (n, c, s, mm b m M) o hf := by
      subst hx
      exact hc
    clear hc
    have iv := fb_X7_used_9 (m := m) hF hU (j := j) (c1 := c1) (by omega) hq
    rw [hx] at iv
    unfold bd_X7_used_9 at hx
    refine JV.ild (p2 := 10) rfl rfl rfl ?_
    refine JV.ald (p2 := 11) rfl rfl rfl ?_
    refine JV.getf (p2 := 14) rfl mm_M rfl rfl ?_
    refine JV.stk (len := 1) (sem := (s_push (.int 0))) (p2 := 15) rfl rfl rfl ?_
    refine JV.iald (p2 := 16) (j := 0) rfl mm_1 rfl (by omega) (by decide) rfl ?_
    refine JV.brF (p2 := 19) rfl rfl rfl (by rw [hN]; exact nI_ge (a := j) (b := N) (by omega) (by omega)) ?_
    refine JV.dld (p2 := 20) rfl rfl rfl ?_
    refine JV.ald (p2 := 21) rfl rfl rfl ?_
    refine JV.getf (p2 := 24) rfl mm_M rfl rfl ?_
    refine JV.ild (p2 := 25) rfl rfl rfl ?_
    refine JV.stk (len := 1) (sem := (s_push (.int 1))) (p2 := 26) rfl rfl rfl ?_
    refine JV.insI (p2 := 29) rfl (Nat.le_of_ble_eq_true rfl) rfl rfl (Nat.le_of_ble_eq_true rfl) rfl (ev_X7_standAt (by omega) rfl) rfl ?_
    refine JV.iald (p2 := 30) (j := (8 + 2 * j + 1)) rfl mm_1 (sa_at rfl rfl) (by omega) (by decide) rfl ?_
    refine JV.stk (len := 1) (sem := s_i2d) (p2 := 31) rfl rfl rfl ?_
    refine JV.dadd (p2 := 32) rfl (du_nn hq (hU _ (by omega)) (by omega)) rfl ?_
    refine JV.dst (p2 := 33) rfl rfl rfl ?_
    refine JV.iinc (p2 := 36) rfl rfl (nI_1 _) rfl rfl ?_
    refine JV.goto rfl ?_
    subst hx
    exact ih (j + 1) _ (by omega) iv hc2
theorem lq_X7_used_9 {d n c s b : Nat} {M : JM} {o : JO} {hf : JH} {m : Mem} {N : Nat} {c1 : UInt64} (hd : 1 ≤ d) (hF : MK m) (hU : ∀ j, j < 6 → VN 13000 (m 1 0 (8 + 2 * j + 1))) (hNc : N ≤ 6) (hN : m 1 0 0 = nI N) (hq : ∃ S : Nat, S ≤ 13000 * 0 ∧ c1 = FP.i2d (nI S)) (hc : JV (Ev mtab mcode d) jcX7_used (39, [(0, .ref b), (1, .double (lf_X7_used_9 m N c1))], []) (n, c, s, mm b m M) o hf) : JV (Ev mtab mcode d) jcX7_used (9, [(0, .ref b), (1, .double c1), (3, .int 0)], []) (n, c, s, mm b m M) o hf := by
  rw [lf_X7_used_9_eq] at hc
  unfold ly_X7_used_9 at hc
  exact lp_X7_used_9 hd hF hU hNc hN N 0 c1 (by omega) hq hc
noncomputable def y_X7_used (m : Mem) : Mem × UInt64 := (if ((up3 m 0 0 1 0) 1 0 3) = 0 then ((up3 m 0 0 1 0), FP.dconst0) else ((up3 m 0 0 1 0), (FP.ddiv (lf_X7_used_9 (up3 m 0 0 1 0) (ix (m 1 0 0)) FP.dconst0) (FP.i2d (((up3 m 0 0 1 0) 1 0 0) * ((up3 m 0 0 1 0) 1 0 3))))))
theorem xe_X7_used : ∃ f, f = y_X7_used := ⟨y_X7_used, rfl⟩
noncomputable def x_X7_used := Classical.choose xe_X7_used
theorem x_X7_used_eq : x_X7_used = y_X7_used := Classical.choose_spec xe_X7_used
theorem ev_X7_used {d n c s b : Nat} {m : Mem} {M : JM}  {res : Mem × UInt64} (hd : 2 ≤ d) (hF : MK m) (hU : ∀ j, j < 6 → VN 13000 (m 1 0 (8 + 2 * j + 1))) (hT : VN 13000 (m 1 0 3)) (hS : ¬ m 1 0 0 = 0)  (hx : x_X7_used m = res) : Ev mtab mcode d 145 [.ref b] (n, c, s, mm b m M) (.inl (some (.double res.2))) (n, c, s, mm b res.1 M) := by
  obtain ⟨d, rfl⟩ : ∃ e, d = e + 1 := ⟨d - 1, by omega⟩
  rw [x_X7_used_eq] at hx
  unfold y_X7_used at hx
  refine jv_mk (m := mX7_used) (cd := jcX7_used) rfl rfl (Nat.le_of_ble_eq_true rfl) trivial ?_
  refine JV.ald (p2 := 1) rfl rfl rfl ?_
  refine JV.stk (len := 1) (sem := (s_push (.int 0))) (p2 := 2) rfl rfl rfl ?_
  refine JV.puti (p2 := 5) rfl mm_M (Nat.le_of_ble_eq_true rfl) (mm_wM (k := 1) rfl) rfl ?_
  refine JV.stk (len := 1) (sem := (s_push (.double FP.dconst0))) (p2 := 6) rfl rfl rfl ?_
  refine JV.dst (p2 := 7) rfl rfl rfl ?_
  refine JV.stk (len := 1) (sem := (s_push (.int 0))) (p2 := 8) rfl rfl rfl ?_
  refine JV.ist (p2 := 9) rfl rfl rfl ?_
  refine lq_X7_used_9 (c1 := FP.dconst0) (N := (ix (m 1 0 0))) (m := (up3 m 0 0 1 0)) (by omega) (mk_o hF) (fun j hj => hU j hj) hF.ns.2 hF.ns.1 ⟨0, Nat.le_refl _, du_0⟩ ?_
  have f39 := fl_X7_used_9 (m := (up3 m 0 0 1 0)) (N := ix (m 1 0 0)) (c1 := FP.dconst0) (mk_o hF) (fun j hj => hU j hj) hF.ns.2 ⟨0, Nat.le_refl _, du_0⟩
  refine JV.ald (p2 := 40) rfl rfl rfl ?_
  refine JV.getf (p2 := 43) rfl mm_M rfl rfl ?_
  refine JV.stk (len := 1) (sem := (s_push (.int 0))) (p2 := 44) rfl rfl rfl ?_
  refine JV.iald (p2 := 45) (j := 0) rfl mm_1 rfl (by omega) (by decide) rfl ?_
  refine JV.ald (p2 := 46) rfl rfl rfl ?_
  refine JV.getf (p2 := 49) rfl mm_M rfl rfl ?_
  refine JV.stk (len := 1) (sem := (s_push (.int 3))) (p2 := 50) rfl rfl rfl ?_
  refine JV.iald (p2 := 51) (j := 3) rfl mm_1 rfl (by omega) (by decide) rfl ?_
  refine JV.stk (len := 1) (sem := s_imul) (p2 := 52) rfl rfl rfl ?_
  refine JV.stk (len := 1) (sem := s_i2d) (p2 := 53) rfl rfl rfl ?_
  refine JV.dst (p2 := 54) rfl rfl rfl ?_
  refine JV.ald (p2 := 55) rfl rfl rfl ?_
  refine JV.getf (p2 := 58) rfl mm_M rfl rfl ?_
  refine JV.stk (len := 1) (sem := (s_push (.int 3))) (p2 := 59) rfl rfl rfl ?_
  refine JV.iald (p2 := 60) (j := 3) rfl mm_1 rfl (by omega) (by decide) rfl ?_
  by_cases h60 : ((up3 m 0 0 1 0) 1 0 3) = 0
  · rw [if_pos h60] at hx
    refine JV.brF (p2 := 63) rfl rfl rfl (fun e => e h60) ?_
    refine JV.stk (len := 1) (sem := (s_push (.double FP.dconst0))) (p2 := 64) rfl rfl rfl ?_
    refine JV.goto rfl ?_
    subst hx
    exact JV.ret rfl (fun _ => rfl) rfl rfl
  · rw [if_neg h60] at hx
    refine JV.brT rfl rfl h60 ?_
    refine JV.dld (p2 := 68) rfl rfl rfl ?_
    refine JV.dld (p2 := 69) rfl rfl rfl ?_
    refine JV.ddiv (p2 := 70) rfl (du_div f39 (du_mul hF.ns hT hS h60)) rfl ?_
    subst hx
    exact JV.ret rfl (fun _ => rfl) rfl rfl
noncomputable def bd_X7_readsNumber_11 (g : Nat) (w2 : Int32) (w3 : Int32) (w4 : Int32) (j : Nat) (m : Mem) : Mem := (if (x_X7_in (((x_X7_here m)).toInt64) 48 57) = true then (if (m 0 0 3) < (w4 + (nI g)) then (up3 (up3 m 0 0 5 (((10 * (m 0 0 5)) + (x_X7_here m)) - 48)) 0 0 3 (((up3 m 0 0 5 (((10 * (m 0 0 5)) + (x_X7_here m)) - 48)) 0 0 3) + 1)) else m) else m)
noncomputable def ly_X7_readsNumber_11 (g : Nat) (w2 : Int32) (w3 : Int32) (w4 : Int32) (N : Nat) (m : Mem) : Mem := itr (fun jz s => bd_X7_readsNumber_11 g w2 w3 w4 jz s) N 0 m
theorem le_X7_readsNumber_11 : ∃ f, f = ly_X7_readsNumber_11 := ⟨ly_X7_readsNumber_11, rfl⟩
noncomputable def lf_X7_readsNumber_11 := Classical.choose le_X7_readsNumber_11
theorem lf_X7_readsNumber_11_eq : lf_X7_readsNumber_11 = ly_X7_readsNumber_11 := Classical.choose_spec le_X7_readsNumber_11
theorem fb_X7_readsNumber_11 {B : Nat} {m0 : Mem} {g : Nat} {w2 : Int32} {w3 : Int32} {w4 : Int32} (hB : B + 0 < 2147483648) (hw : VN 90 w4) (hg : g ≤ 4) {j : Nat} {m : Mem} (hjN : j < 4) (hW : TW (B + 0 * j) m0 m) (hn : m 0 0 3 = w4 + nI j ∨ ¬ (x_X7_in (x_X7_here m).toInt64 48 57 = true ∧ m 0 0 3 < w4 + nI g)) : (TW (B + 0 * (j + 1)) m0 (bd_X7_readsNumber_11 g w2 w3 w4 j m)) ∧ ((bd_X7_readsNumber_11 g w2 w3 w4 j m) 0 0 3 = w4 + nI (j + 1) ∨ ¬ (x_X7_in (x_X7_here (bd_X7_readsNumber_11 g w2 w3 w4 j m)).toInt64 48 57 = true ∧ (bd_X7_readsNumber_11 g w2 w3 w4 j m) 0 0 3 < w4 + nI g)) := by
  unfold bd_X7_readsNumber_11
  by_cases h25 : (x_X7_in (((x_X7_here m)).toInt64) 48 57) = true
  · rw [if_pos h25]
    by_cases h36 : (m 0 0 3) < (w4 + (nI g))
    · rw [if_pos h36]
      exact ⟨(TW.mono (TW.p (TW.o hW) (tw_up (TW.o hW) (in_here (m := m) (by decide) h25))) (by omega)), (by first | exact Or.inr (fun q => h25 q.1) | exact Or.inr (fun q => h36 q.2) | exact hn.elim (fun e => Or.inl (tn_up e)) (fun e => absurd ⟨h25, h36⟩ e))⟩
    · rw [if_neg h36]
      exact ⟨(TW.mono hW (by omega)), (by first | exact Or.inr (fun q => h25 q.1) | exact Or.inr (fun q => h36 q.2) | exact hn.elim (fun e => Or.inl (tn_up e)) (fun e => absurd ⟨h25, h36⟩ e))⟩
  · rw [if_neg h25]
    exact ⟨(TW.mono hW (by omega)), (by first | exact Or.inr (fun q => h25 q.1) | exact Or.inr (fun q => h36 q.2) | exact hn.elim (fun e => Or.inl (tn_up e)) (fun e => absurd ⟨h25, h36⟩ e))⟩
theorem fl_X7_readsNumber_11 {B : Nat} {m0 : Mem} {g : Nat} {w2 : Int32} {w3 : Int32} {w4 : Int32} (hB : B + 0 < 2147483648) (hw : VN 90 w4) (hg : g ≤ 4) {m : Mem} {N : Nat} (hNl : N = 4) (hW : TW (B + 0 * 0) m0 m) (hn : m 0 0 3 = w4 + nI 0 ∨ ¬ (x_X7_in (x_X7_here m).toInt64 48 57 = true ∧ m 0 0 3 < w4 + nI g)) : (TW (B + 0 * N) m0 (lf_X7_readsNumber_11 g w2 w3 w4 N m)) ∧ ((lf_X7_readsNumber_11 g w2 w3 w4 N m) 0 0 3 = w4 + nI N ∨ ¬ (x_X7_in (x_X7_here (lf_X7_readsNumber_11 g w2 w3 w4 N m)).toInt64 48 57 = true ∧ (lf_X7_readsNumber_11 g w2 w3 w4 N m) 0 0 3 < w4 + nI g)) := by
  rw [lf_X7_readsNumber_11_eq]
  unfold ly_X7_readsNumber_11
  exact itr_inv (n := N) (s := m) (P := fun jz s => (TW (B + 0 * jz) m0 s) ∧ (s 0 0 3 = w4 + nI jz ∨ ¬ (x_X7_in (x_X7_here s).toInt64 48 57 = true ∧ s 0 0 3 < w4 + nI g))) (fun jz s => bd_X7_readsNumber_11 g w2 w3 w4 jz s) (fun jz s hj hs => fb_X7_readsNumber_11 (B := B) (m0 := m0) hB hw hg (j := jz) (m := s) (by omega) hs.1 hs.2) ⟨hW, hn⟩
theorem lp_X7_readsNumber_11 {d n c s b : Nat} {M : JM} {o : JO} {hf : JH} {B : Nat} {m0 : Mem} {g : Nat} {w2 : Int32} {w3 : Int32} {w4 : Int32} (hd : 1 ≤ d) (hB : B + 0 < 2147483648) (hw : VN 90 w4) (hg : g ≤ 4) : ∀ (k j : Nat) (m : Mem), j + k = 4 → (TW (B + 0 * j) m0 m) → (m 0 0 3 = w4 + nI j ∨ ¬ (x_X7_in (x_X7_here m).toInt64 48 57 = true ∧ m 0 0 3 < w4 + nI g)) → JV (Ev mtab mcode d) jcX7_readsNumber (71, [(0, .ref b), (1, .int (nI g)), (2, .int w2), (3, .int w3), (4, .int w4)], []) (n, c, s, mm b (itr (fun jz s => bd_X7_readsNumber_11 g w2 w3 w4 jz s) k j m) M) o hf → JV (Ev mtab mcode d) jcX7_readsNumber (11, [(0, .ref b), (1, .int (nI g)), (2, .int w2), (3, .int w3), (4, .int w4)], []) (n, c, s, mm b m M) o hf := by
  intro k
  induction k with
  | zero =>
    intro j m hj hW hn hc
    have hjN : j = 4 := by omega
    obtain ⟨s1, hx⟩ : ∃ s1, bd_X7_readsNumber_11 g w2 w3 w4 j m = s1 := ⟨_, rfl⟩
    unfold bd_X7_readsNumber_11 at hx
    refine JV.ald (p2 := 12) rfl rfl rfl ?_
    refine JV.invI (p2 := 15) rfl rfl rfl mm_M (Nat.le_of_ble_eq_true rfl) rfl (ev_X7_here (by omega) (tw_nn hW) hW.2.1.2.1 rfl) ?_
    refine JV.stk (len := 1) (sem := s_i2l) (p2 := 16) rfl rfl rfl ?_
    refine JV.ldc2 (p2 := 19) rfl rfl ?_
    refine JV.ldc2 (p2 := 22) rfl rfl ?_
    refine JV.insI (p2 := 25) rfl (Nat.le_of_ble_eq_true rfl) rfl rfl (Nat.le_of_ble_eq_true rfl) rfl (ev_X7_in (by omega) rfl) rfl ?_
    by_cases h25 : (x_X7_in (((x_X7_here m)).toInt64) 48 57) = true
    · rw [if_pos h25] at hx
      refine JV.brF (p2 := 28) rfl rfl rfl (bI_t h25) ?_
      refine JV.ald (p2 := 29) rfl rfl rfl ?_
      refine JV.getf (p2 := 32) rfl mm_M rfl rfl ?_
      refine JV.ild (p2 := 34) rfl rfl rfl ?_
      refine JV.ild (p2 := 35) rfl rfl rfl ?_
      refine JV.stk (len := 1) (sem := s_iadd) (p2 := 36) rfl rfl rfl ?_
      by_cases h36 : (m 0 0 3) < (w4 + (nI g))
      · rw [if_pos h36] at hx
        refine JV.brF (p2 := 39) rfl rfl rfl (Int32.not_le.mpr h36) ?_
        rcases hn with e | e
        · rw [e, hjN] at h36
          exact absurd h36 (w_nlt hw hg)
        · exact absurd ⟨h25, h36⟩ e
      · rw [if_neg h36] at hx
        refine JV.brT rfl rfl (Int32.not_lt.mp h36) ?_
        exact JV.keep [0, 1, 2, 3, 4] rfl hc
    · rw [if_neg h25] at hx
      refine JV.brT rfl rfl (bI_f h25) ?_
      exact JV.keep [0, 1, 2, 3, 4] rfl hc
  | succ k ih =>
    intro j m hj hW hn hc
    obtain ⟨s1, hx⟩ : ∃ s1, bd_X7_readsNumber_11 g w2 w3 w4 j m = s1 := ⟨_, rfl⟩
    have hc2 : JV (Ev mtab mcode d) jcX7_readsNumber (71, [(0, .ref b), (1, .int (nI g)), (2, .int w2), (3, .int w3), (4, .int w4)], []) (n, c, s, mm b (itr (fun jz s => bd_X7_readsNumber_11 g w2 w3 w4 jz s) k (j + 1) s1) M) o hf := by
      subst hx
      exact hc
    clear hc
    have iv := fb_X7_readsNumber_11 (B := B) (m0 := m0) (g := g) (w2 := w2) (w3 := w3) (w4 := w4) hB hw hg (j := j) (m := m) (by omega) hW hn
    rw [hx] at iv
    unfold bd_X7_readsNumber_11 at hx
    refine JV.ald (p2 := 12) rfl rfl rfl ?_
    refine JV.invI (p2 := 15) rfl rfl rfl mm_M (Nat.le_of_ble_eq_true rfl) rfl (ev_X7_here (by omega) (tw_nn hW) hW.2.1.2.1 rfl) ?_
    refine JV.stk (len := 1) (sem := s_i2l) (p2 := 16) rfl rfl rfl ?_
    refine JV.ldc2 (p2 := 19) rfl rfl ?_
    refine JV.ldc2 (p2 := 22) rfl rfl ?_
    refine JV.insI (p2 := 25) rfl (Nat.le_of_ble_eq_true rfl) rfl rfl (Nat.le_of_ble_eq_true rfl) rfl (ev_X7_in (by omega) rfl) rfl ?_
    by_cases h25 : (x_X7_in (((x_X7_here m)).toInt64) 48 57) = true
    · rw [if_pos h25] at hx
      refine JV.brF (p2 := 28) rfl rfl rfl (bI_t h25) ?_
      refine JV.ald (p2 := 29) rfl rfl rfl ?_
      refine JV.getf (p2 := 32) rfl mm_M rfl rfl ?_
      refine JV.ild (p2 := 34) rfl rfl rfl ?_
      refine JV.ild (p2 := 35) rfl rfl rfl ?_
      refine JV.stk (len := 1) (sem := s_iadd) (p2 := 36) rfl rfl rfl ?_
      by_cases h36 : (m 0 0 3) < (w4 + (nI g))
      · rw [if_pos h36] at hx
        refine JV.brF (p2 := 39) rfl rfl rfl (Int32.not_le.mpr h36) ?_
        refine JV.ald (p2 := 40) rfl rfl rfl ?_
        refine JV.stk (len := 2) (sem := (s_push (.int 10))) (p2 := 42) rfl rfl rfl ?_
        refine JV.ald (p2 := 43) rfl rfl rfl ?_
        refine JV.getf (p2 := 46) rfl mm_M rfl rfl ?_
        refine JV.stk (len := 1) (sem := s_imul) (p2 := 47) rfl rfl rfl ?_
        refine JV.ald (p2 := 48) rfl rfl rfl ?_
        refine JV.invI (p2 := 51) rfl rfl rfl mm_M (Nat.le_of_ble_eq_true rfl) rfl (ev_X7_here (by omega) (tw_nn hW) hW.2.1.2.1 rfl) ?_
        refine JV.stk (len := 1) (sem := s_iadd) (p2 := 52) rfl rfl rfl ?_
        refine JV.stk (len := 2) (sem := (s_push (.int 48))) (p2 := 54) rfl rfl rfl ?_
        refine JV.stk (len := 1) (sem := s_isub) (p2 := 55) rfl rfl rfl ?_
        refine JV.puti (p2 := 58) rfl mm_M (Nat.le_of_ble_eq_true rfl) (mm_wM (k := 5) rfl) rfl ?_
        refine JV.ald (p2 := 59) rfl rfl rfl ?_
        refine JV.stk (len := 1) (sem := s_dup) (p2 := 60) rfl rfl rfl ?_
        refine JV.getf (p2 := 63) rfl mm_M rfl rfl ?_
        refine JV.stk (len := 1) (sem := (s_push (.int 1))) (p2 := 64) rfl rfl rfl ?_
        refine JV.stk (len := 1) (sem := s_iadd) (p2 := 65) rfl rfl rfl ?_
        refine JV.puti (p2 := 68) rfl mm_M (Nat.le_of_ble_eq_true rfl) (mm_wM (k := 3) rfl) rfl ?_
        refine JV.goto rfl ?_
        subst hx
        exact ih (j + 1) _ (by omega) iv.1 iv.2 hc2
      · rw [if_neg h36] at hx
        refine JV.brT rfl rfl (Int32.not_lt.mp h36) ?_
        subst hx
        have fx : ∀ jz, (fun jz s => bd_X7_readsNumber_11 g w2 w3 w4 jz s) jz m = m := fun jz => by
          show bd_X7_readsNumber_11 g w2 w3 w4 jz m = _
          unfold bd_X7_readsNumber_11
          rw [if_pos h25, if_neg h36]
        rw [itr_fix (f := (fun jz s => bd_X7_readsNumber_11 g w2 w3 w4 jz s)) (s := m) fx] at hc2
        exact JV.keep [0, 1, 2, 3, 4] rfl hc2
    · rw [if_neg h25] at hx
      refine JV.brT rfl rfl (bI_f h25) ?_
      subst hx
      have fx : ∀ jz, (fun jz s => bd_X7_readsNumber_11 g w2 w3 w4 jz s) jz m = m := fun jz => by
        show bd_X7_readsNumber_11 g w2 w3 w4 jz m = _
        unfold bd_X7_readsNumber_11
        rw [if_neg h25]
      rw [itr_fix (f := (fun jz s => bd_X7_readsNumber_11 g w2 w3 w4 jz s)) (s := m) fx] at hc2
      exact JV.keep [0, 1, 2, 3, 4] rfl hc2
theorem lq_X7_readsNumber_11 {d n c s b : Nat} {M : JM} {o : JO} {hf : JH} {B : Nat} {m0 : Mem} {g : Nat} {w2 : Int32} {w3 : Int32} {w4 : Int32} {m : Mem} (hd : 1 ≤ d) (hB : B + 0 < 2147483648) (hw : VN 90 w4) (hg : g ≤ 4) (hW : TW (B + 0 * 0) m0 m) (hn : m 0 0 3 = w4 + nI 0 ∨ ¬ (x_X7_in (x_X7_here m).toInt64 48 57 = true ∧ m 0 0 3 < w4 + nI g)) (hc : JV (Ev mtab mcode d) jcX7_readsNumber (71, [(0, .ref b), (1, .int (nI g)), (2, .int w2), (3, .int w3), (4, .int w4)], []) (n, c, s, mm b (lf_X7_readsNumber_11 g w2 w3 w4 4 m) M) o hf) : JV (Ev mtab mcode d) jcX7_readsNumber (11, [(0, .ref b), (1, .int (nI g)), (2, .int w2), (3, .int w3), (4, .int w4)], []) (n, c, s, mm b m M) o hf := by
  rw [lf_X7_readsNumber_11_eq] at hc
  unfold ly_X7_readsNumber_11 at hc
  exact lp_X7_readsNumber_11 (B := B) (m0 := m0) hd hB hw hg 4 0 m (by omega) hW hn hc
noncomputable def y_X7_readsNumber (m : Mem) (g : Nat) (p2 : Int32) (p3 : Int32) : Mem × Bool := (if ((lf_X7_readsNumber_11 g p2 p3 (m 0 0 3) 4 (up3 m 0 0 5 0)) 0 0 3) = (m 0 0 3) then ((lf_X7_readsNumber_11 g p2 p3 (m 0 0 3) 4 (up3 m 0 0 5 0)), false) else (if (x_X7_in (((x_X7_here (lf_X7_readsNumber_11 g p2 p3 (m 0 0 3) 4 (up3 m 0 0 5 0)))).toInt64) 48 57) = true then ((lf_X7_readsNumber_11 g p2 p3 (m 0 0 3) 4 (up3 m 0 0 5 0)), false) else (if (x_X7_in ((((lf_X7_readsNumber_11 g p2 p3 (m 0 0 3) 4 (up3 m 0 0 5 0)) 0 0 5)).toInt64) ((p2).toInt64) ((p3).toInt64)) = true then ((lf_X7_readsNumber_11 g p2 p3 (m 0 0 3) 4 (up3 m 0 0 5 0)), true) else ((up3 (lf_X7_readsNumber_11 g p2 p3 (m 0 0 3) 4 (up3 m 0 0 5 0)) 0 0 3 (m 0 0 3)), false))))
theorem xe_X7_readsNumber : ∃ f, f = y_X7_readsNumber := ⟨y_X7_readsNumber, rfl⟩
noncomputable def x_X7_readsNumber := Classical.choose xe_X7_readsNumber
theorem x_X7_readsNumber_eq : x_X7_readsNumber = y_X7_readsNumber := Classical.choose_spec xe_X7_readsNumber
theorem ev_X7_readsNumber {d n c s b : Nat} {m : Mem} {M : JM} {g : Nat} {v_g : Int32} {p2 : Int32} {p3 : Int32} {B : Nat} {m0 : Mem} {res : Mem × Bool} (hd : 2 ≤ d) (e_g : v_g = nI g) (hW : TW B m0 m) (hB : B + 0 < 2147483648) (hg : g ≤ 4)  (hx : x_X7_readsNumber m g p2 p3 = res) : Ev mtab mcode d 150 [.ref b, .int v_g, .int p2, .int p3] (n, c, s, mm b m M) (.inl (some (.int (bI res.2)))) (n, c, s, mm b res.1 M) := by
  obtain ⟨d, rfl⟩ : ∃ e, d = e + 1 := ⟨d - 1, by omega⟩
  subst e_g
  rw [x_X7_readsNumber_eq] at hx
  unfold y_X7_readsNumber at hx
  refine jv_mk (m := mX7_readsNumber) (cd := jcX7_readsNumber) rfl rfl (Nat.le_of_ble_eq_true rfl) (bI_or _) ?_
  refine JV.ald (p2 := 1) rfl rfl rfl ?_
  refine JV.getf (p2 := 4) rfl mm_M rfl rfl ?_
  refine JV.ist (p2 := 6) rfl rfl rfl ?_
  refine JV.ald (p2 := 7) rfl rfl rfl ?_
  refine JV.stk (len := 1) (sem := (s_push (.int 0))) (p2 := 8) rfl rfl rfl ?_
  refine JV.puti (p2 := 11) rfl mm_M (Nat.le_of_ble_eq_true rfl) (mm_wM (k := 5) rfl) rfl ?_
  refine lq_X7_readsNumber_11 (m := (up3 m 0 0 5 0)) (g := g) (w2 := p2) (w3 := p3) (w4 := (m 0 0 3)) (B := B) (m0 := m0) (by omega) (by omega) hW.2.1.1 hg (TW.mono (TW.o hW) (by omega)) (Or.inl (ad0 _)) ?_
  refine JV.ald (p2 := 72) rfl rfl rfl ?_
  refine JV.getf (p2 := 75) rfl mm_M rfl rfl ?_
  refine JV.ild (p2 := 77) rfl rfl rfl ?_
  by_cases h77 : ((lf_X7_readsNumber_11 g p2 p3 (m 0 0 3) 4 (up3 m 0 0 5 0)) 0 0 3) = (m 0 0 3)
  · rw [if_pos h77] at hx
    refine JV.brT rfl rfl h77 ?_
    refine JV.stk (len := 1) (sem := (s_push (.int 0))) (p2 := 98) rfl rfl rfl ?_
    subst hx
    exact JV.ret rfl (fun _ => rfl) rfl rfl
  · rw [if_neg h77] at hx
    refine JV.brF (p2 := 80) rfl rfl rfl h77 ?_
    refine JV.ald (p2 := 81) rfl rfl rfl ?_
    refine JV.invI (p2 := 84) rfl rfl rfl mm_M (Nat.le_of_ble_eq_true rfl) rfl (ev_X7_here (by omega) (tw_nn (TW.mono (fl_X7_readsNumber_11 (m := (up3 m 0 0 5 0)) (g := g) (w2 := p2) (w3 := p3) (w4 := (m 0 0 3)) (B := B) (m0 := m0) (by omega) hW.2.1.1 hg (N := 4) rfl (TW.mono (TW.o hW) (by omega)) (Or.inl (ad0 _))).1 (B' := B + 0) (by omega))) (TW.mono (fl_X7_readsNumber_11 (m := (up3 m 0 0 5 0)) (g := g) (w2 := p2) (w3 := p3) (w4 := (m 0 0 3)) (B := B) (m0 := m0) (by omega) hW.2.1.1 hg (N := 4) rfl (TW.mono (TW.o hW) (by omega)) (Or.inl (ad0 _))).1 (B' := B + 0) (by omega)).2.1.2.1 rfl) ?_
    refine JV.stk (len := 1) (sem := s_i2l) (p2 := 85) rfl rfl rfl ?_
    refine JV.ldc2 (p2 := 88) rfl rfl ?_
    refine JV.ldc2 (p2 := 91) rfl rfl ?_
    refine JV.insI (p2 := 94) rfl (Nat.le_of_ble_eq_true rfl) rfl rfl (Nat.le_of_ble_eq_true rfl) rfl (ev_X7_in (by omega) rfl) rfl ?_
    by_cases h94 : (x_X7_in (((x_X7_here (lf_X7_readsNumber_11 g p2 p3 (m 0 0 3) 4 (up3 m 0 0 5 0)))).toInt64) 48 57) = true
    · rw [if_pos h94] at hx
      refine JV.brF (p2 := 97) rfl rfl rfl (bI_t h94) ?_
      refine JV.stk (len := 1) (sem := (s_push (.int 0))) (p2 := 98) rfl rfl rfl ?_
      subst hx
      exact JV.ret rfl (fun _ => rfl) rfl rfl
    · rw [if_neg h94] at hx
      refine JV.brT rfl rfl (bI_f h94) ?_
      refine JV.ald (p2 := 100) rfl rfl rfl ?_
      refine JV.getf (p2 := 103) rfl mm_M rfl rfl ?_
      refine JV.stk (len := 1) (sem := s_i2l) (p2 := 104) rfl rfl rfl ?_
      refine JV.ild (p2 := 105) rfl rfl rfl ?_
      refine JV.stk (len := 1) (sem := s_i2l) (p2 := 106) rfl rfl rfl ?_
      refine JV.ild (p2 := 107) rfl rfl rfl ?_
      refine JV.stk (len := 1) (sem := s_i2l) (p2 := 108) rfl rfl rfl ?_
      refine JV.insI (p2 := 111) rfl (Nat.le_of_ble_eq_true rfl) rfl rfl (Nat.le_of_ble_eq_true rfl) rfl (ev_X7_in (by omega) rfl) rfl ?_
      by_cases h111 : (x_X7_in ((((lf_X7_readsNumber_11 g p2 p3 (m 0 0 3) 4 (up3 m 0 0 5 0)) 0 0 5)).toInt64) ((p2).toInt64) ((p3).toInt64)) = true
      · rw [if_pos h111] at hx
        refine JV.brT rfl rfl (bI_t h111) ?_
        refine JV.stk (len := 1) (sem := (s_push (.int 1))) (p2 := 123) rfl rfl rfl ?_
        subst hx
        exact JV.ret rfl (fun _ => rfl) rfl rfl
      · rw [if_neg h111] at hx
        refine JV.brF (p2 := 114) rfl rfl rfl (fun e => e (bI_f h111)) ?_
        refine JV.ald (p2 := 115) rfl rfl rfl ?_
        refine JV.ild (p2 := 117) rfl rfl rfl ?_
        refine JV.puti (p2 := 120) rfl mm_M (Nat.le_of_ble_eq_true rfl) (mm_wM (k := 3) rfl) rfl ?_
        refine JV.stk (len := 1) (sem := (s_push (.int 0))) (p2 := 121) rfl rfl rfl ?_
        subst hx
        exact JV.ret rfl (fun _ => rfl) rfl rfl
theorem fw_X7_readsNumber {m : Mem} {g : Nat} {v_g : Int32} {p2 : Int32} {p3 : Int32} {B : Nat} {m0 : Mem} (e_g : v_g = nI g) (hW : TW B m0 m) (hB : B + 0 < 2147483648) (hg : g ≤ 4) : TW (B + 0) m0 (x_X7_readsNumber m g p2 p3).1 := by
  subst e_g
  rw [x_X7_readsNumber_eq]
  unfold y_X7_readsNumber
  by_cases h77 : ((lf_X7_readsNumber_11 g p2 p3 (m 0 0 3) 4 (up3 m 0 0 5 0)) 0 0 3) = (m 0 0 3)
  · rw [if_pos h77]
    try dsimp only
    exact TW.mono (TW.mono (fl_X7_readsNumber_11 (m := (up3 m 0 0 5 0)) (g := g) (w2 := p2) (w3 := p3) (w4 := (m 0 0 3)) (B := B) (m0 := m0) (by omega) hW.2.1.1 hg (N := 4) rfl (TW.mono (TW.o hW) (by omega)) (Or.inl (ad0 _))).1 (B' := B + 0) (by omega)) (by omega)
  · rw [if_neg h77]
    by_cases h94 : (x_X7_in (((x_X7_here (lf_X7_readsNumber_11 g p2 p3 (m 0 0 3) 4 (up3 m 0 0 5 0)))).toInt64) 48 57) = true
    · rw [if_pos h94]
      try dsimp only
      exact TW.mono (TW.mono (fl_X7_readsNumber_11 (m := (up3 m 0 0 5 0)) (g := g) (w2 := p2) (w3 := p3) (w4 := (m 0 0 3)) (B := B) (m0 := m0) (by omega) hW.2.1.1 hg (N := 4) rfl (TW.mono (TW.o hW) (by omega)) (Or.inl (ad0 _))).1 (B' := B + 0) (by omega)) (by omega)
    · rw [if_neg h94]
      by_cases h111 : (x_X7_in ((((lf_X7_readsNumber_11 g p2 p3 (m 0 0 3) 4 (up3 m 0 0 5 0)) 0 0 5)).toInt64) ((p2).toInt64) ((p3).toInt64)) = true
      · rw [if_pos h111]
        try dsimp only
        exact TW.mono (TW.mono (fl_X7_readsNumber_11 (m := (up3 m 0 0 5 0)) (g := g) (w2 := p2) (w3 := p3) (w4 := (m 0 0 3)) (B := B) (m0 := m0) (by omega) hW.2.1.1 hg (N := 4) rfl (TW.mono (TW.o hW) (by omega)) (Or.inl (ad0 _))).1 (B' := B + 0) (by omega)) (by omega)
      · rw [if_neg h111]
        try dsimp only
        exact TW.mono (TW.p (TW.mono (fl_X7_readsNumber_11 (m := (up3 m 0 0 5 0)) (g := g) (w2 := p2) (w3 := p3) (w4 := (m 0 0 3)) (B := B) (m0 := m0) (by omega) hW.2.1.1 hg (N := 4) rfl (TW.mono (TW.o hW) (by omega)) (Or.inl (ad0 _))).1 (B' := B + 0) (by omega)) hW.2.1.1) (by omega)
theorem r4_readsNumber {m : Mem} {g : Nat} {p2 p3 : Int32} : (x_X7_readsNumber m g p2 p3).1 0 0 4 = m 0 0 4 := by
  have e : ∀ (w2 w3 w : Int32) (N : Nat) (s : Mem), lf_X7_readsNumber_11 g w2 w3 w N s 0 0 4 = s 0 0 4 := by
    intro w2 w3 w N s
    rw [lf_X7_readsNumber_11_eq]
    unfold ly_X7_readsNumber_11
    refine itr_inv (P := fun (_ : Nat) (t : Mem) => t 0 0 4 = s 0 0 4) _ (fun j t _ h => ?_) rfl
    show bd_X7_readsNumber_11 g w2 w3 w j t 0 0 4 = s 0 0 4
    unfold bd_X7_readsNumber_11
    repeat' split
    all_goals exact h
  rw [x_X7_readsNumber_eq]
  unfold y_X7_readsNumber
  repeat' split
  all_goals
    dsimp only
    exact e _ _ _ _ _
noncomputable def y_X7_readsPlane (m : Mem) : Mem × Bool := (if (m 0 0 4) = 12 then (m, false) else (if (x_X7_readsDigit m (5 * (ix (m 0 0 4))) 4).2 = true then (if (x_X7_readsDigit ((x_X7_readsDigit m (5 * (ix (m 0 0 4))) 4).1) ((5 * (ix (m 0 0 4))) + 1) 3).2 = true then (if (x_X7_readsNumber ((x_X7_readsDigit ((x_X7_readsDigit m (5 * (ix (m 0 0 4))) 4).1) ((5 * (ix (m 0 0 4))) + 1) 3).1) 4 0 1999).2 = true then (if (x_X7_passes (up3 (x_X7_readsNumber ((x_X7_readsDigit ((x_X7_readsDigit m (5 * (ix (m 0 0 4))) 4).1) ((5 * (ix (m 0 0 4))) + 1) 3).1) 4 0 1999).1 6 0 ((5 * (ix (m 0 0 4))) + 2) ((x_X7_readsNumber ((x_X7_readsDigit ((x_X7_readsDigit m (5 * (ix (m 0 0 4))) 4).1) ((5 * (ix (m 0 0 4))) + 1) 3).1) 4 0 1999).1 0 0 5)) 44).2 = true then (if (x_X7_readsNumber ((x_X7_passes (up3 (x_X7_readsNumber ((x_X7_readsDigit ((x_X7_readsDigit m (5 * (ix (m 0 0 4))) 4).1) ((5 * (ix (m 0 0 4))) + 1) 3).1) 4 0 1999).1 6 0 ((5 * (ix (m 0 0 4))) + 2) ((x_X7_readsNumber ((x_X7_readsDigit ((x_X7_readsDigit m (5 * (ix (m 0 0 4))) 4).1) ((5 * (ix (m 0 0 4))) + 1) 3).1) 4 0 1999).1 0 0 5)) 44).1) 4 (((x_X7_passes (up3 (x_X7_readsNumber ((x_X7_readsDigit ((x_X7_readsDigit m (5 * (ix (m 0 0 4))) 4).1) ((5 * (ix (m 0 0 4))) + 1) 3).1) 4 0 1999).1 6 0 ((5 * (ix (m 0 0 4))) + 2) ((x_X7_readsNumber ((x_X7_readsDigit ((x_X7_readsDigit m (5 * (ix (m 0 0 4))) 4).1) ((5 * (ix (m 0 0 4))) + 1) 3).1) 4 0 1999).1 0 0 5)) 44).1 6 0 ((5 * (ix (m 0 0 4))) + 2)) + 1) 1999).2 = true then (if (x_X7_passes (up3 (up3 (x_X7_readsNumber ((x_X7_passes (up3 (x_X7_readsNumber ((x_X7_readsDigit ((x_X7_readsDigit m (5 * (ix (m 0 0 4))) 4).1) ((5 * (ix (m 0 0 4))) + 1) 3).1) 4 0 1999).1 6 0 ((5 * (ix (m 0 0 4))) + 2) ((x_X7_readsNumber ((x_X7_readsDigit ((x_X7_readsDigit m (5 * (ix (m 0 0 4))) 4).1) ((5 * (ix (m 0 0 4))) + 1) 3).1) 4 0 1999).1 0 0 5)) 44).1) 4 (((x_X7_passes (up3 (x_X7_readsNumber ((x_X7_readsDigit ((x_X7_readsDigit m (5 * (ix (m 0 0 4))) 4).1) ((5 * (ix (m 0 0 4))) + 1) 3).1) 4 0 1999).1 6 0 ((5 * (ix (m 0 0 4))) + 2) ((x_X7_readsNumber ((x_X7_readsDigit ((x_X7_readsDigit m (5 * (ix (m 0 0 4))) 4).1) ((5 * (ix (m 0 0 4))) + 1) 3).1) 4 0 1999).1 0 0 5)) 44).1 6 0 ((5 * (ix (m 0 0 4))) + 2)) + 1) 1999).1 6 0 ((5 * (ix (m 0 0 4))) + 3) ((x_X7_readsNumber ((x_X7_passes (up3 (x_X7_readsNumber ((x_X7_readsDigit ((x_X7_readsDigit m (5 * (ix (m 0 0 4))) 4).1) ((5 * (ix (m 0 0 4))) + 1) 3).1) 4 0 1999).1 6 0 ((5 * (ix (m 0 0 4))) + 2) ((x_X7_readsNumber ((x_X7_readsDigit ((x_X7_readsDigit m (5 * (ix (m 0 0 4))) 4).1) ((5 * (ix (m 0 0 4))) + 1) 3).1) 4 0 1999).1 0 0 5)) 44).1) 4 (((x_X7_passes (up3 (x_X7_readsNumber ((x_X7_readsDigit ((x_X7_readsDigit m (5 * (ix (m 0 0 4))) 4).1) ((5 * (ix (m 0 0 4))) + 1) 3).1) 4 0 1999).1 6 0 ((5 * (ix (m 0 0 4))) + 2) ((x_X7_readsNumber ((x_X7_readsDigit ((x_X7_readsDigit m (5 * (ix (m 0 0 4))) 4).1) ((5 * (ix (m 0 0 4))) + 1) 3).1) 4 0 1999).1 0 0 5)) 44).1 6 0 ((5 * (ix (m 0 0 4))) + 2)) + 1) 1999).1 0 0 5)) 6 0 ((5 * (ix (m 0 0 4))) + 4) 100) 112).2 = true then (if (x_X7_readsNumber ((x_X7_passes (up3 (up3 (x_X7_readsNumber ((x_X7_passes (up3 (x_X7_readsNumber ((x_X7_readsDigit ((x_X7_readsDigit m (5 * (ix (m 0 0 4))) 4).1) ((5 * (ix (m 0 0 4))) + 1) 3).1) 4 0 1999).1 6 0 ((5 * (ix (m 0 0 4))) + 2) ((x_X7_readsNumber ((x_X7_readsDigit ((x_X7_readsDigit m (5 * (ix (m 0 0 4))) 4).1) ((5 * (ix (m 0 0 4))) + 1) 3).1) 4 0 1999).1 0 0 5)) 44).1) 4 (((x_X7_passes (up3 (x_X7_readsNumber ((x_X7_readsDigit ((x_X7_readsDigit m (5 * (ix (m 0 0 4))) 4).1) ((5 * (ix (m 0 0 4))) + 1) 3).1) 4 0 1999).1 6 0 ((5 * (ix (m 0 0 4))) + 2) ((x_X7_readsNumber ((x_X7_readsDigit ((x_X7_readsDigit m (5 * (ix (m 0 0 4))) 4).1) ((5 * (ix (m 0 0 4))) + 1) 3).1) 4 0 1999).1 0 0 5)) 44).1 6 0 ((5 * (ix (m 0 0 4))) + 2)) + 1) 1999).1 6 0 ((5 * (ix (m 0 0 4))) + 3) ((x_X7_readsNumber ((x_X7_passes (up3 (x_X7_readsNumber ((x_X7_readsDigit ((x_X7_readsDigit m (5 * (ix (m 0 0 4))) 4).1) ((5 * (ix (m 0 0 4))) + 1) 3).1) 4 0 1999).1 6 0 ((5 * (ix (m 0 0 4))) + 2) ((x_X7_readsNumber ((x_X7_readsDigit ((x_X7_readsDigit m (5 * (ix (m 0 0 4))) 4).1) ((5 * (ix (m 0 0 4))) + 1) 3).1) 4 0 1999).1 0 0 5)) 44).1) 4 (((x_X7_passes (up3 (x_X7_readsNumber ((x_X7_readsDigit ((x_X7_readsDigit m (5 * (ix (m 0 0 4))) 4).1) ((5 * (ix (m 0 0 4))) + 1) 3).1) 4 0 1999).1 6 0 ((5 * (ix (m 0 0 4))) + 2) ((x_X7_readsNumber ((x_X7_readsDigit ((x_X7_readsDigit m (5 * (ix (m 0 0 4))) 4).1) ((5 * (ix (m 0 0 4))) + 1) 3).1) 4 0 1999).1 0 0 5)) 44).1 6 0 ((5 * (ix (m 0 0 4))) + 2)) + 1) 1999).1 0 0 5)) 6 0 ((5 * (ix (m 0 0 4))) + 4) 100) 112).1) 3 0 400).2 = true then (if (x_X7_passes (up3 (x_X7_readsNumber ((x_X7_passes (up3 (up3 (x_X7_readsNumber ((x_X7_passes (up3 (x_X7_readsNumber ((x_X7_readsDigit ((x_X7_readsDigit m (5 * (ix (m 0 0 4))) 4).1) ((5 * (ix (m 0 0 4))) + 1) 3).1) 4 0 1999).1 6 0 ((5 * (ix (m 0 0 4))) + 2) ((x_X7_readsNumber ((x_X7_readsDigit ((x_X7_readsDigit m (5 * (ix (m 0 0 4))) 4).1) ((5 * (ix (m 0 0 4))) + 1) 3).1) 4 0 1999).1 0 0 5)) 44).1) 4 (((x_X7_passes (up3 (x_X7_readsNumber ((x_X7_readsDigit ((x_X7_readsDigit m (5 * (ix (m 0 0 4))) 4).1) ((5 * (ix (m 0 0 4))) + 1) 3).1) 4 0 1999).1 6 0 ((5 * (ix (m 0 0 4))) + 2) ((x_X7_readsNumber ((x_X7_readsDigit ((x_X7_readsDigit m (5 * (ix (m 0 0 4))) 4).1) ((5 * (ix (m 0 0 4))) + 1) 3).1) 4 0 1999).1 0 0 5)) 44).1 6 0 ((5 * (ix (m 0 0 4))) + 2)) + 1) 1999).1 6 0 ((5 * (ix (m 0 0 4))) + 3) ((x_X7_readsNumber ((x_X7_passes (up3 (x_X7_readsNumber ((x_X7_readsDigit ((x_X7_readsDigit m (5 * (ix (m 0 0 4))) 4).1) ((5 * (ix (m 0 0 4))) + 1) 3).1) 4 0 1999).1 6 0 ((5 * (ix (m 0 0 4))) + 2) ((x_X7_readsNumber ((x_X7_readsDigit ((x_X7_readsDigit m (5 * (ix (m 0 0 4))) 4).1) ((5 * (ix (m 0 0 4))) + 1) 3).1) 4 0 1999).1 0 0 5)) 44).1) 4 (((x_X7_passes (up3 (x_X7_readsNumber ((x_X7_readsDigit ((x_X7_readsDigit m (5 * (ix (m 0 0 4))) 4).1) ((5 * (ix (m 0 0 4))) + 1) 3).1) 4 0 1999).1 6 0 ((5 * (ix (m 0 0 4))) + 2) ((x_X7_readsNumber ((x_X7_readsDigit ((x_X7_readsDigit m (5 * (ix (m 0 0 4))) 4).1) ((5 * (ix (m 0 0 4))) + 1) 3).1) 4 0 1999).1 0 0 5)) 44).1 6 0 ((5 * (ix (m 0 0 4))) + 2)) + 1) 1999).1 0 0 5)) 6 0 ((5 * (ix (m 0 0 4))) + 4) 100) 112).1) 3 0 400).1 6 0 ((5 * (ix (m 0 0 4))) + 4) ((x_X7_readsNumber ((x_X7_passes (up3 (up3 (x_X7_readsNumber ((x_X7_passes (up3 (x_X7_readsNumber ((x_X7_readsDigit ((x_X7_readsDigit m (5 * (ix (m 0 0 4))) 4).1) ((5 * (ix (m 0 0 4))) + 1) 3).1) 4 0 1999).1 6 0 ((5 * (ix (m 0 0 4))) + 2) ((x_X7_readsNumber ((x_X7_readsDigit ((x_X7_readsDigit m (5 * (ix (m 0 0 4))) 4).1) ((5 * (ix (m 0 0 4))) + 1) 3).1) 4 0 1999).1 0 0 5)) 44).1) 4 (((x_X7_passes (up3 (x_X7_readsNumber ((x_X7_readsDigit ((x_X7_readsDigit m (5 * (ix (m 0 0 4))) 4).1) ((5 * (ix (m 0 0 4))) + 1) 3).1) 4 0 1999).1 6 0 ((5 * (ix (m 0 0 4))) + 2) ((x_X7_readsNumber ((x_X7_readsDigit ((x_X7_readsDigit m (5 * (ix (m 0 0 4))) 4).1) ((5 * (ix (m 0 0 4))) + 1) 3).1) 4 0 1999).1 0 0 5)) 44).1 6 0 ((5 * (ix (m 0 0 4))) + 2)) + 1) 1999).1 6 0 ((5 * (ix (m 0 0 4))) + 3) ((x_X7_readsNumber ((x_X7_passes (up3 (x_X7_readsNumber ((x_X7_readsDigit ((x_X7_readsDigit m (5 * (ix (m 0 0 4))) 4).1) ((5 * (ix (m 0 0 4))) + 1) 3).1) 4 0 1999).1 6 0 ((5 * (ix (m 0 0 4))) + 2) ((x_X7_readsNumber ((x_X7_readsDigit ((x_X7_readsDigit m (5 * (ix (m 0 0 4))) 4).1) ((5 * (ix (m 0 0 4))) + 1) 3).1) 4 0 1999).1 0 0 5)) 44).1) 4 (((x_X7_passes (up3 (x_X7_readsNumber ((x_X7_readsDigit ((x_X7_readsDigit m (5 * (ix (m 0 0 4))) 4).1) ((5 * (ix (m 0 0 4))) + 1) 3).1) 4 0 1999).1 6 0 ((5 * (ix (m 0 0 4))) + 2) ((x_X7_readsNumber ((x_X7_readsDigit ((x_X7_readsDigit m (5 * (ix (m 0 0 4))) 4).1) ((5 * (ix (m 0 0 4))) + 1) 3).1) 4 0 1999).1 0 0 5)) 44).1 6 0 ((5 * (ix (m 0 0 4))) + 2)) + 1) 1999).1 0 0 5)) 6 0 ((5 * (ix (m 0 0 4))) + 4) 100) 112).1) 3 0 400).1 0 0 5)) 59).2 = true then ((up3 (x_X7_passes (up3 (x_X7_readsNumber ((x_X7_passes (up3 (up3 (x_X7_readsNumber ((x_X7_passes (up3 (x_X7_readsNumber ((x_X7_readsDigit ((x_X7_readsDigit m (5 * (ix (m 0 0 4))) 4).1) ((5 * (ix (m 0 0 4))) + 1) 3).1) 4 0 1999).1 6 0 ((5 * (ix (m 0 0 4))) + 2) ((x_X7_readsNumber ((x_X7_readsDigit ((x_X7_readsDigit m (5 * (ix (m 0 0 4))) 4).1) ((5 * (ix (m 0 0 4))) + 1) 3).1) 4 0 1999).1 0 0 5)) 44).1) 4 (((x_X7_passes (up3 (x_X7_readsNumber ((x_X7_readsDigit ((x_X7_readsDigit m (5 * (ix (m 0 0 4))) 4).1) ((5 * (ix (m 0 0 4))) + 1) 3).1) 4 0 1999).1 6 0 ((5 * (ix (m 0 0 4))) + 2) ((x_X7_readsNumber ((x_X7_readsDigit ((x_X7_readsDigit m (5 * (ix (m 0 0 4))) 4).1) ((5 * (ix (m 0 0 4))) + 1) 3).1) 4 0 1999).1 0 0 5)) 44).1 6 0 ((5 * (ix (m 0 0 4))) + 2)) + 1) 1999).1 6 0 ((5 * (ix (m 0 0 4))) + 3) ((x_X7_readsNumber ((x_X7_passes (up3 (x_X7_readsNumber ((x_X7_readsDigit ((x_X7_readsDigit m (5 * (ix (m 0 0 4))) 4).1) ((5 * (ix (m 0 0 4))) + 1) 3).1) 4 0 1999).1 6 0 ((5 * (ix (m 0 0 4))) + 2) ((x_X7_readsNumber ((x_X7_readsDigit ((x_X7_readsDigit m (5 * (ix (m 0 0 4))) 4).1) ((5 * (ix (m 0 0 4))) + 1) 3).1) 4 0 1999).1 0 0 5)) 44).1) 4 (((x_X7_passes (up3 (x_X7_readsNumber ((x_X7_readsDigit ((x_X7_readsDigit m (5 * (ix (m 0 0 4))) 4).1) ((5 * (ix (m 0 0 4))) + 1) 3).1) 4 0 1999).1 6 0 ((5 * (ix (m 0 0 4))) + 2) ((x_X7_readsNumber ((x_X7_readsDigit ((x_X7_readsDigit m (5 * (ix (m 0 0 4))) 4).1) ((5 * (ix (m 0 0 4))) + 1) 3).1) 4 0 1999).1 0 0 5)) 44).1 6 0 ((5 * (ix (m 0 0 4))) + 2)) + 1) 1999).1 0 0 5)) 6 0 ((5 * (ix (m 0 0 4))) + 4) 100) 112).1) 3 0 400).1 6 0 ((5 * (ix (m 0 0 4))) + 4) ((x_X7_readsNumber ((x_X7_passes (up3 (up3 (x_X7_readsNumber ((x_X7_passes (up3 (x_X7_readsNumber ((x_X7_readsDigit ((x_X7_readsDigit m (5 * (ix (m 0 0 4))) 4).1) ((5 * (ix (m 0 0 4))) + 1) 3).1) 4 0 1999).1 6 0 ((5 * (ix (m 0 0 4))) + 2) ((x_X7_readsNumber ((x_X7_readsDigit ((x_X7_readsDigit m (5 * (ix (m 0 0 4))) 4).1) ((5 * (ix (m 0 0 4))) + 1) 3).1) 4 0 1999).1 0 0 5)) 44).1) 4 (((x_X7_passes (up3 (x_X7_readsNumber ((x_X7_readsDigit ((x_X7_readsDigit m (5 * (ix (m 0 0 4))) 4).1) ((5 * (ix (m 0 0 4))) + 1) 3).1) 4 0 1999).1 6 0 ((5 * (ix (m 0 0 4))) + 2) ((x_X7_readsNumber ((x_X7_readsDigit ((x_X7_readsDigit m (5 * (ix (m 0 0 4))) 4).1) ((5 * (ix (m 0 0 4))) + 1) 3).1) 4 0 1999).1 0 0 5)) 44).1 6 0 ((5 * (ix (m 0 0 4))) + 2)) + 1) 1999).1 6 0 ((5 * (ix (m 0 0 4))) + 3) ((x_X7_readsNumber ((x_X7_passes (up3 (x_X7_readsNumber ((x_X7_readsDigit ((x_X7_readsDigit m (5 * (ix (m 0 0 4))) 4).1) ((5 * (ix (m 0 0 4))) + 1) 3).1) 4 0 1999).1 6 0 ((5 * (ix (m 0 0 4))) + 2) ((x_X7_readsNumber ((x_X7_readsDigit ((x_X7_readsDigit m (5 * (ix (m 0 0 4))) 4).1) ((5 * (ix (m 0 0 4))) + 1) 3).1) 4 0 1999).1 0 0 5)) 44).1) 4 (((x_X7_passes (up3 (x_X7_readsNumber ((x_X7_readsDigit ((x_X7_readsDigit m (5 * (ix (m 0 0 4))) 4).1) ((5 * (ix (m 0 0 4))) + 1) 3).1) 4 0 1999).1 6 0 ((5 * (ix (m 0 0 4))) + 2) ((x_X7_readsNumber ((x_X7_readsDigit ((x_X7_readsDigit m (5 * (ix (m 0 0 4))) 4).1) ((5 * (ix (m 0 0 4))) + 1) 3).1) 4 0 1999).1 0 0 5)) 44).1 6 0 ((5 * (ix (m 0 0 4))) + 2)) + 1) 1999).1 0 0 5)) 6 0 ((5 * (ix (m 0 0 4))) + 4) 100) 112).1) 3 0 400).1 0 0 5)) 59).1 0 0 4 (((x_X7_passes (up3 (x_X7_readsNumber ((x_X7_passes (up3 (up3 (x_X7_readsNumber ((x_X7_passes (up3 (x_X7_readsNumber ((x_X7_readsDigit ((x_X7_readsDigit m (5 * (ix (m 0 0 4))) 4).1) ((5 * (ix (m 0 0 4))) + 1) 3).1) 4 0 1999).1 6 0 ((5 * (ix (m 0 0 4))) + 2) ((x_X7_readsNumber ((x_X7_readsDigit ((x_X7_readsDigit m (5 * (ix (m 0 0 4))) 4).1) ((5 * (ix (m 0 0 4))) + 1) 3).1) 4 0 1999).1 0 0 5)) 44).1) 4 (((x_X7_passes (up3 (x_X7_readsNumber ((x_X7_readsDigit ((x_X7_readsDigit m (5 * (ix (m 0 0 4))) 4).1) ((5 * (ix (m 0 0 4))) + 1) 3).1) 4 0 1999).1 6 0 ((5 * (ix (m 0 0 4))) + 2) ((x_X7_readsNumber ((x_X7_readsDigit ((x_X7_readsDigit m (5 * (ix (m 0 0 4))) 4).1) ((5 * (ix (m 0 0 4))) + 1) 3).1) 4 0 1999).1 0 0 5)) 44).1 6 0 ((5 * (ix (m 0 0 4))) + 2)) + 1) 1999).1 6 0 ((5 * (ix (m 0 0 4))) + 3) ((x_X7_readsNumber ((x_X7_passes (up3 (x_X7_readsNumber ((x_X7_readsDigit ((x_X7_readsDigit m (5 * (ix (m 0 0 4))) 4).1) ((5 * (ix (m 0 0 4))) + 1) 3).1) 4 0 1999).1 6 0 ((5 * (ix (m 0 0 4))) + 2) ((x_X7_readsNumber ((x_X7_readsDigit ((x_X7_readsDigit m (5 * (ix (m 0 0 4))) 4).1) ((5 * (ix (m 0 0 4))) + 1) 3).1) 4 0 1999).1 0 0 5)) 44).1) 4 (((x_X7_passes (up3 (x_X7_readsNumber ((x_X7_readsDigit ((x_X7_readsDigit m (5 * (ix (m 0 0 4))) 4).1) ((5 * (ix (m 0 0 4))) + 1) 3).1) 4 0 1999).1 6 0 ((5 * (ix (m 0 0 4))) + 2) ((x_X7_readsNumber ((x_X7_readsDigit ((x_X7_readsDigit m (5 * (ix (m 0 0 4))) 4).1) ((5 * (ix (m 0 0 4))) + 1) 3).1) 4 0 1999).1 0 0 5)) 44).1 6 0 ((5 * (ix (m 0 0 4))) + 2)) + 1) 1999).1 0 0 5)) 6 0 ((5 * (ix (m 0 0 4))) + 4) 100) 112).1) 3 0 400).1 6 0 ((5 * (ix (m 0 0 4))) + 4) ((x_X7_readsNumber ((x_X7_passes (up3 (up3 (x_X7_readsNumber ((x_X7_passes (up3 (x_X7_readsNumber ((x_X7_readsDigit ((x_X7_readsDigit m (5 * (ix (m 0 0 4))) 4).1) ((5 * (ix (m 0 0 4))) + 1) 3).1) 4 0 1999).1 6 0 ((5 * (ix (m 0 0 4))) + 2) ((x_X7_readsNumber ((x_X7_readsDigit ((x_X7_readsDigit m (5 * (ix (m 0 0 4))) 4).1) ((5 * (ix (m 0 0 4))) + 1) 3).1) 4 0 1999).1 0 0 5)) 44).1) 4 (((x_X7_passes (up3 (x_X7_readsNumber ((x_X7_readsDigit ((x_X7_readsDigit m (5 * (ix (m 0 0 4))) 4).1) ((5 * (ix (m 0 0 4))) + 1) 3).1) 4 0 1999).1 6 0 ((5 * (ix (m 0 0 4))) + 2) ((x_X7_readsNumber ((x_X7_readsDigit ((x_X7_readsDigit m (5 * (ix (m 0 0 4))) 4).1) ((5 * (ix (m 0 0 4))) + 1) 3).1) 4 0 1999).1 0 0 5)) 44).1 6 0 ((5 * (ix (m 0 0 4))) + 2)) + 1) 1999).1 6 0 ((5 * (ix (m 0 0 4))) + 3) ((x_X7_readsNumber ((x_X7_passes (up3 (x_X7_readsNumber ((x_X7_readsDigit ((x_X7_readsDigit m (5 * (ix (m 0 0 4))) 4).1) ((5 * (ix (m 0 0 4))) + 1) 3).1) 4 0 1999).1 6 0 ((5 * (ix (m 0 0 4))) + 2) ((x_X7_readsNumber ((x_X7_readsDigit ((x_X7_readsDigit m (5 * (ix (m 0 0 4))) 4).1) ((5 * (ix (m 0 0 4))) + 1) 3).1) 4 0 1999).1 0 0 5)) 44).1) 4 (((x_X7_passes (up3 (x_X7_readsNumber ((x_X7_readsDigit ((x_X7_readsDigit m (5 * (ix (m 0 0 4))) 4).1) ((5 * (ix (m 0 0 4))) + 1) 3).1) 4 0 1999).1 6 0 ((5 * (ix (m 0 0 4))) + 2) ((x_X7_readsNumber ((x_X7_readsDigit ((x_X7_readsDigit m (5 * (ix (m 0 0 4))) 4).1) ((5 * (ix (m 0 0 4))) + 1) 3).1) 4 0 1999).1 0 0 5)) 44).1 6 0 ((5 * (ix (m 0 0 4))) + 2)) + 1) 1999).1 0 0 5)) 6 0 ((5 * (ix (m 0 0 4))) + 4) 100) 112).1) 3 0 400).1 0 0 5)) 59).1 0 0 4) + 1)), (x_X7_passes (up3 (x_X7_readsNumber ((x_X7_passes (up3 (up3 (x_X7_readsNumber ((x_X7_passes (up3 (x_X7_readsNumber ((x_X7_readsDigit ((x_X7_readsDigit m (5 * (ix (m 0 0 4))) 4).1) ((5 * (ix (m 0 0 4))) + 1) 3).1) 4 0 1999).1 6 0 ((5 * (ix (m 0 0 4))) + 2) ((x_X7_readsNumber ((x_X7_readsDigit ((x_X7_readsDigit m (5 * (ix (m 0 0 4))) 4).1) ((5 * (ix (m 0 0 4))) + 1) 3).1) 4 0 1999).1 0 0 5)) 44).1) 4 (((x_X7_passes (up3 (x_X7_readsNumber ((x_X7_readsDigit ((x_X7_readsDigit m (5 * (ix (m 0 0 4))) 4).1) ((5 * (ix (m 0 0 4))) + 1) 3).1) 4 0 1999).1 6 0 ((5 * (ix (m 0 0 4))) + 2) ((x_X7_readsNumber ((x_X7_readsDigit ((x_X7_readsDigit m (5 * (ix (m 0 0 4))) 4).1) ((5 * (ix (m 0 0 4))) + 1) 3).1) 4 0 1999).1 0 0 5)) 44).1 6 0 ((5 * (ix (m 0 0 4))) + 2)) + 1) 1999).1 6 0 ((5 * (ix (m 0 0 4))) + 3) ((x_X7_readsNumber ((x_X7_passes (up3 (x_X7_readsNumber ((x_X7_readsDigit ((x_X7_readsDigit m (5 * (ix (m 0 0 4))) 4).1) ((5 * (ix (m 0 0 4))) + 1) 3).1) 4 0 1999).1 6 0 ((5 * (ix (m 0 0 4))) + 2) ((x_X7_readsNumber ((x_X7_readsDigit ((x_X7_readsDigit m (5 * (ix (m 0 0 4))) 4).1) ((5 * (ix (m 0 0 4))) + 1) 3).1) 4 0 1999).1 0 0 5)) 44).1) 4 (((x_X7_passes (up3 (x_X7_readsNumber ((x_X7_readsDigit ((x_X7_readsDigit m (5 * (ix (m 0 0 4))) 4).1) ((5 * (ix (m 0 0 4))) + 1) 3).1) 4 0 1999).1 6 0 ((5 * (ix (m 0 0 4))) + 2) ((x_X7_readsNumber ((x_X7_readsDigit ((x_X7_readsDigit m (5 * (ix (m 0 0 4))) 4).1) ((5 * (ix (m 0 0 4))) + 1) 3).1) 4 0 1999).1 0 0 5)) 44).1 6 0 ((5 * (ix (m 0 0 4))) + 2)) + 1) 1999).1 0 0 5)) 6 0 ((5 * (ix (m 0 0 4))) + 4) 100) 112).1) 3 0 400).1 6 0 ((5 * (ix (m 0 0 4))) + 4) ((x_X7_readsNumber ((x_X7_passes (up3 (up3 (x_X7_readsNumber ((x_X7_passes (up3 (x_X7_readsNumber ((x_X7_readsDigit ((x_X7_readsDigit m (5 * (ix (m 0 0 4))) 4).1) ((5 * (ix (m 0 0 4))) + 1) 3).1) 4 0 1999).1 6 0 ((5 * (ix (m 0 0 4))) + 2) ((x_X7_readsNumber ((x_X7_readsDigit ((x_X7_readsDigit m (5 * (ix (m 0 0 4))) 4).1) ((5 * (ix (m 0 0 4))) + 1) 3).1) 4 0 1999).1 0 0 5)) 44).1) 4 (((x_X7_passes (up3 (x_X7_readsNumber ((x_X7_readsDigit ((x_X7_readsDigit m (5 * (ix (m 0 0 4))) 4).1) ((5 * (ix (m 0 0 4))) + 1) 3).1) 4 0 1999).1 6 0 ((5 * (ix (m 0 0 4))) + 2) ((x_X7_readsNumber ((x_X7_readsDigit ((x_X7_readsDigit m (5 * (ix (m 0 0 4))) 4).1) ((5 * (ix (m 0 0 4))) + 1) 3).1) 4 0 1999).1 0 0 5)) 44).1 6 0 ((5 * (ix (m 0 0 4))) + 2)) + 1) 1999).1 6 0 ((5 * (ix (m 0 0 4))) + 3) ((x_X7_readsNumber ((x_X7_passes (up3 (x_X7_readsNumber ((x_X7_readsDigit ((x_X7_readsDigit m (5 * (ix (m 0 0 4))) 4).1) ((5 * (ix (m 0 0 4))) + 1) 3).1) 4 0 1999).1 6 0 ((5 * (ix (m 0 0 4))) + 2) ((x_X7_readsNumber ((x_X7_readsDigit ((x_X7_readsDigit m (5 * (ix (m 0 0 4))) 4).1) ((5 * (ix (m 0 0 4))) + 1) 3).1) 4 0 1999).1 0 0 5)) 44).1) 4 (((x_X7_passes (up3 (x_X7_readsNumber ((x_X7_readsDigit ((x_X7_readsDigit m (5 * (ix (m 0 0 4))) 4).1) ((5 * (ix (m 0 0 4))) + 1) 3).1) 4 0 1999).1 6 0 ((5 * (ix (m 0 0 4))) + 2) ((x_X7_readsNumber ((x_X7_readsDigit ((x_X7_readsDigit m (5 * (ix (m 0 0 4))) 4).1) ((5 * (ix (m 0 0 4))) + 1) 3).1) 4 0 1999).1 0 0 5)) 44).1 6 0 ((5 * (ix (m 0 0 4))) + 2)) + 1) 1999).1 0 0 5)) 6 0 ((5 * (ix (m 0 0 4))) + 4) 100) 112).1) 3 0 400).1 0 0 5)) 59).2) else ((up3 (x_X7_passes (up3 (x_X7_readsNumber ((x_X7_passes (up3 (up3 (x_X7_readsNumber ((x_X7_passes (up3 (x_X7_readsNumber ((x_X7_readsDigit ((x_X7_readsDigit m (5 * (ix (m 0 0 4))) 4).1) ((5 * (ix (m 0 0 4))) + 1) 3).1) 4 0 1999).1 6 0 ((5 * (ix (m 0 0 4))) + 2) ((x_X7_readsNumber ((x_X7_readsDigit ((x_X7_readsDigit m (5 * (ix (m 0 0 4))) 4).1) ((5 * (ix (m 0 0 4))) + 1) 3).1) 4 0 1999).1 0 0 5)) 44).1) 4 (((x_X7_passes (up3 (x_X7_readsNumber ((x_X7_readsDigit ((x_X7_readsDigit m (5 * (ix (m 0 0 4))) 4).1) ((5 * (ix (m 0 0 4))) + 1) 3).1) 4 0 1999).1 6 0 ((5 * (ix (m 0 0 4))) + 2) ((x_X7_readsNumber ((x_X7_readsDigit ((x_X7_readsDigit m (5 * (ix (m 0 0 4))) 4).1) ((5 * (ix (m 0 0 4))) + 1) 3).1) 4 0 1999).1 0 0 5)) 44).1 6 0 ((5 * (ix (m 0 0 4))) + 2)) + 1) 1999).1 6 0 ((5 * (ix (m 0 0 4))) + 3) ((x_X7_readsNumber ((x_X7_passes (up3 (x_X7_readsNumber ((x_X7_readsDigit ((x_X7_readsDigit m (5 * (ix (m 0 0 4))) 4).1) ((5 * (ix (m 0 0 4))) + 1) 3).1) 4 0 1999).1 6 0 ((5 * (ix (m 0 0 4))) + 2) ((x_X7_readsNumber ((x_X7_readsDigit ((x_X7_readsDigit m (5 * (ix (m 0 0 4))) 4).1) ((5 * (ix (m 0 0 4))) + 1) 3).1) 4 0 1999).1 0 0 5)) 44).1) 4 (((x_X7_passes (up3 (x_X7_readsNumber ((x_X7_readsDigit ((x_X7_readsDigit m (5 * (ix (m 0 0 4))) 4).1) ((5 * (ix (m 0 0 4))) + 1) 3).1) 4 0 1999).1 6 0 ((5 * (ix (m 0 0 4))) + 2) ((x_X7_readsNumber ((x_X7_readsDigit ((x_X7_readsDigit m (5 * (ix (m 0 0 4))) 4).1) ((5 * (ix (m 0 0 4))) + 1) 3).1) 4 0 1999).1 0 0 5)) 44).1 6 0 ((5 * (ix (m 0 0 4))) + 2)) + 1) 1999).1 0 0 5)) 6 0 ((5 * (ix (m 0 0 4))) + 4) 100) 112).1) 3 0 400).1 6 0 ((5 * (ix (m 0 0 4))) + 4) ((x_X7_readsNumber ((x_X7_passes (up3 (up3 (x_X7_readsNumber ((x_X7_passes (up3 (x_X7_readsNumber ((x_X7_readsDigit ((x_X7_readsDigit m (5 * (ix (m 0 0 4))) 4).1) ((5 * (ix (m 0 0 4))) + 1) 3).1) 4 0 1999).1 6 0 ((5 * (ix (m 0 0 4))) + 2) ((x_X7_readsNumber ((x_X7_readsDigit ((x_X7_readsDigit m (5 * (ix (m 0 0 4))) 4).1) ((5 * (ix (m 0 0 4))) + 1) 3).1) 4 0 1999).1 0 0 5)) 44).1) 4 (((x_X7_passes (up3 (x_X7_readsNumber ((x_X7_readsDigit ((x_X7_readsDigit m (5 * (ix (m 0 0 4))) 4).1) ((5 * (ix (m 0 0 4))) + 1) 3).1) 4 0 1999).1 6 0 ((5 * (ix (m 0 0 4))) + 2) ((x_X7_readsNumber ((x_X7_readsDigit ((x_X7_readsDigit m (5 * (ix (m 0 0 4))) 4).1) ((5 * (ix (m 0 0 4))) + 1) 3).1) 4 0 1999).1 0 0 5)) 44).1 6 0 ((5 * (ix (m 0 0 4))) + 2)) + 1) 1999).1 6 0 ((5 * (ix (m 0 0 4))) + 3) ((x_X7_readsNumber ((x_X7_passes (up3 (x_X7_readsNumber ((x_X7_readsDigit ((x_X7_readsDigit m (5 * (ix (m 0 0 4))) 4).1) ((5 * (ix (m 0 0 4))) + 1) 3).1) 4 0 1999).1 6 0 ((5 * (ix (m 0 0 4))) + 2) ((x_X7_readsNumber ((x_X7_readsDigit ((x_X7_readsDigit m (5 * (ix (m 0 0 4))) 4).1) ((5 * (ix (m 0 0 4))) + 1) 3).1) 4 0 1999).1 0 0 5)) 44).1) 4 (((x_X7_passes (up3 (x_X7_readsNumber ((x_X7_readsDigit ((x_X7_readsDigit m (5 * (ix (m 0 0 4))) 4).1) ((5 * (ix (m 0 0 4))) + 1) 3).1) 4 0 1999).1 6 0 ((5 * (ix (m 0 0 4))) + 2) ((x_X7_readsNumber ((x_X7_readsDigit ((x_X7_readsDigit m (5 * (ix (m 0 0 4))) 4).1) ((5 * (ix (m 0 0 4))) + 1) 3).1) 4 0 1999).1 0 0 5)) 44).1 6 0 ((5 * (ix (m 0 0 4))) + 2)) + 1) 1999).1 0 0 5)) 6 0 ((5 * (ix (m 0 0 4))) + 4) 100) 112).1) 3 0 400).1 0 0 5)) 59).1 0 0 4 (((x_X7_passes (up3 (x_X7_readsNumber ((x_X7_passes (up3 (up3 (x_X7_readsNumber ((x_X7_passes (up3 (x_X7_readsNumber ((x_X7_readsDigit ((x_X7_readsDigit m (5 * (ix (m 0 0 4))) 4).1) ((5 * (ix (m 0 0 4))) + 1) 3).1) 4 0 1999).1 6 0 ((5 * (ix (m 0 0 4))) + 2) ((x_X7_readsNumber ((x_X7_readsDigit ((x_X7_readsDigit m (5 * (ix (m 0 0 4))) 4).1) ((5 * (ix (m 0 0 4))) + 1) 3).1) 4 0 1999).1 0 0 5)) 44).1) 4 (((x_X7_passes (up3 (x_X7_readsNumber ((x_X7_readsDigit ((x_X7_readsDigit m (5 * (ix (m 0 0 4))) 4).1) ((5 * (ix (m 0 0 4))) + 1) 3).1) 4 0 1999).1 6 0 ((5 * (ix (m 0 0 4))) + 2) ((x_X7_readsNumber ((x_X7_readsDigit ((x_X7_readsDigit m (5 * (ix (m 0 0 4))) 4).1) ((5 * (ix (m 0 0 4))) + 1) 3).1) 4 0 1999).1 0 0 5)) 44).1 6 0 ((5 * (ix (m 0 0 4))) + 2)) + 1) 1999).1 6 0 ((5 * (ix (m 0 0 4))) + 3) ((x_X7_readsNumber ((x_X7_passes (up3 (x_X7_readsNumber ((x_X7_readsDigit ((x_X7_readsDigit m (5 * (ix (m 0 0 4))) 4).1) ((5 * (ix (m 0 0 4))) + 1) 3).1) 4 0 1999).1 6 0 ((5 * (ix (m 0 0 4))) + 2) ((x_X7_readsNumber ((x_X7_readsDigit ((x_X7_readsDigit m (5 * (ix (m 0 0 4))) 4).1) ((5 * (ix (m 0 0 4))) + 1) 3).1) 4 0 1999).1 0 0 5)) 44).1) 4 (((x_X7_passes (up3 (x_X7_readsNumber ((x_X7_readsDigit ((x_X7_readsDigit m (5 * (ix (m 0 0 4))) 4).1) ((5 * (ix (m 0 0 4))) + 1) 3).1) 4 0 1999).1 6 0 ((5 * (ix (m 0 0 4))) + 2) ((x_X7_readsNumber ((x_X7_readsDigit ((x_X7_readsDigit m (5 * (ix (m 0 0 4))) 4).1) ((5 * (ix (m 0 0 4))) + 1) 3).1) 4 0 1999).1 0 0 5)) 44).1 6 0 ((5 * (ix (m 0 0 4))) + 2)) + 1) 1999).1 0 0 5)) 6 0 ((5 * (ix (m 0 0 4))) + 4) 100) 112).1) 3 0 400).1 6 0 ((5 * (ix (m 0 0 4))) + 4) ((x_X7_readsNumber ((x_X7_passes (up3 (up3 (x_X7_readsNumber ((x_X7_passes (up3 (x_X7_readsNumber ((x_X7_readsDigit ((x_X7_readsDigit m (5 * (ix (m 0 0 4))) 4).1) ((5 * (ix (m 0 0 4))) + 1) 3).1) 4 0 1999).1 6 0 ((5 * (ix (m 0 0 4))) + 2) ((x_X7_readsNumber ((x_X7_readsDigit ((x_X7_readsDigit m (5 * (ix (m 0 0 4))) 4).1) ((5 * (ix (m 0 0 4))) + 1) 3).1) 4 0 1999).1 0 0 5)) 44).1) 4 (((x_X7_passes (up3 (x_X7_readsNumber ((x_X7_readsDigit ((x_X7_readsDigit m (5 * (ix (m 0 0 4))) 4).1) ((5 * (ix (m 0 0 4))) + 1) 3).1) 4 0 1999).1 6 0 ((5 * (ix (m 0 0 4))) + 2) ((x_X7_readsNumber ((x_X7_readsDigit ((x_X7_readsDigit m (5 * (ix (m 0 0 4))) 4).1) ((5 * (ix (m 0 0 4))) + 1) 3).1) 4 0 1999).1 0 0 5)) 44).1 6 0 ((5 * (ix (m 0 0 4))) + 2)) + 1) 1999).1 6 0 ((5 * (ix (m 0 0 4))) + 3) ((x_X7_readsNumber ((x_X7_passes (up3 (x_X7_readsNumber ((x_X7_readsDigit ((x_X7_readsDigit m (5 * (ix (m 0 0 4))) 4).1) ((5 * (ix (m 0 0 4))) + 1) 3).1) 4 0 1999).1 6 0 ((5 * (ix (m 0 0 4))) + 2) ((x_X7_readsNumber ((x_X7_readsDigit ((x_X7_readsDigit m (5 * (ix (m 0 0 4))) 4).1) ((5 * (ix (m 0 0 4))) + 1) 3).1) 4 0 1999).1 0 0 5)) 44).1) 4 (((x_X7_passes (up3 (x_X7_readsNumber ((x_X7_readsDigit ((x_X7_readsDigit m (5 * (ix (m 0 0 4))) 4).1) ((5 * (ix (m 0 0 4))) + 1) 3).1) 4 0 1999).1 6 0 ((5 * (ix (m 0 0 4))) + 2) ((x_X7_readsNumber ((x_X7_readsDigit ((x_X7_readsDigit m (5 * (ix (m 0 0 4))) 4).1) ((5 * (ix (m 0 0 4))) + 1) 3).1) 4 0 1999).1 0 0 5)) 44).1 6 0 ((5 * (ix (m 0 0 4))) + 2)) + 1) 1999).1 0 0 5)) 6 0 ((5 * (ix (m 0 0 4))) + 4) 100) 112).1) 3 0 400).1 0 0 5)) 59).1 0 0 4) + 0)), (x_X7_passes (up3 (x_X7_readsNumber ((x_X7_passes (up3 (up3 (x_X7_readsNumber ((x_X7_passes (up3 (x_X7_readsNumber ((x_X7_readsDigit ((x_X7_readsDigit m (5 * (ix (m 0 0 4))) 4).1) ((5 * (ix (m 0 0 4))) + 1) 3).1) 4 0 1999).1 6 0 ((5 * (ix (m 0 0 4))) + 2) ((x_X7_readsNumber ((x_X7_readsDigit ((x_X7_readsDigit m (5 * (ix (m 0 0 4))) 4).1) ((5 * (ix (m 0 0 4))) + 1) 3).1) 4 0 1999).1 0 0 5)) 44).1) 4 (((x_X7_passes (up3 (x_X7_readsNumber ((x_X7_readsDigit ((x_X7_readsDigit m (5 * (ix (m 0 0 4))) 4).1) ((5 * (ix (m 0 0 4))) + 1) 3).1) 4 0 1999).1 6 0 ((5 * (ix (m 0 0 4))) + 2) ((x_X7_readsNumber ((x_X7_readsDigit ((x_X7_readsDigit m (5 * (ix (m 0 0 4))) 4).1) ((5 * (ix (m 0 0 4))) + 1) 3).1) 4 0 1999).1 0 0 5)) 44).1 6 0 ((5 * (ix (m 0 0 4))) + 2)) + 1) 1999).1 6 0 ((5 * (ix (m 0 0 4))) + 3) ((x_X7_readsNumber ((x_X7_passes (up3 (x_X7_readsNumber ((x_X7_readsDigit ((x_X7_readsDigit m (5 * (ix (m 0 0 4))) 4).1) ((5 * (ix (m 0 0 4))) + 1) 3).1) 4 0 1999).1 6 0 ((5 * (ix (m 0 0 4))) + 2) ((x_X7_readsNumber ((x_X7_readsDigit ((x_X7_readsDigit m (5 * (ix (m 0 0 4))) 4).1) ((5 * (ix (m 0 0 4))) + 1) 3).1) 4 0 1999).1 0 0 5)) 44).1) 4 (((x_X7_passes (up3 (x_X7_readsNumber ((x_X7_readsDigit ((x_X7_readsDigit m (5 * (ix (m 0 0 4))) 4).1) ((5 * (ix (m 0 0 4))) + 1) 3).1) 4 0 1999).1 6 0 ((5 * (ix (m 0 0 4))) + 2) ((x_X7_readsNumber ((x_X7_readsDigit ((x_X7_readsDigit m (5 * (ix (m 0 0 4))) 4).1) ((5 * (ix (m 0 0 4))) + 1) 3).1) 4 0 1999).1 0 0 5)) 44).1 6 0 ((5 * (ix (m 0 0 4))) + 2)) + 1) 1999).1 0 0 5)) 6 0 ((5 * (ix (m 0 0 4))) + 4) 100) 112).1) 3 0 400).1 6 0 ((5 * (ix (m 0 0 4))) + 4) ((x_X7_readsNumber ((x_X7_passes (up3 (up3 (x_X7_readsNumber ((x_X7_passes (up3 (x_X7_readsNumber ((x_X7_readsDigit ((x_X7_readsDigit m (5 * (ix (m 0 0 4))) 4).1) ((5 * (ix (m 0 0 4))) + 1) 3).1) 4 0 1999).1 6 0 ((5 * (ix (m 0 0 4))) + 2) ((x_X7_readsNumber ((x_X7_readsDigit ((x_X7_readsDigit m (5 * (ix (m 0 0 4))) 4).1) ((5 * (ix (m 0 0 4))) + 1) 3).1) 4 0 1999).1 0 0 5)) 44).1) 4 (((x_X7_passes (up3 (x_X7_readsNumber ((x_X7_readsDigit ((x_X7_readsDigit m (5 * (ix (m 0 0 4))) 4).1) ((5 * (ix (m 0 0 4))) + 1) 3).1) 4 0 1999).1 6 0 ((5 * (ix (m 0 0 4))) + 2) ((x_X7_readsNumber ((x_X7_readsDigit ((x_X7_readsDigit m (5 * (ix (m 0 0 4))) 4).1) ((5 * (ix (m 0 0 4))) + 1) 3).1) 4 0 1999).1 0 0 5)) 44).1 6 0 ((5 * (ix (m 0 0 4))) + 2)) + 1) 1999).1 6 0 ((5 * (ix (m 0 0 4))) + 3) ((x_X7_readsNumber ((x_X7_passes (up3 (x_X7_readsNumber ((x_X7_readsDigit ((x_X7_readsDigit m (5 * (ix (m 0 0 4))) 4).1) ((5 * (ix (m 0 0 4))) + 1) 3).1) 4 0 1999).1 6 0 ((5 * (ix (m 0 0 4))) + 2) ((x_X7_readsNumber ((x_X7_readsDigit ((x_X7_readsDigit m (5 * (ix (m 0 0 4))) 4).1) ((5 * (ix (m 0 0 4))) + 1) 3).1) 4 0 1999).1 0 0 5)) 44).1) 4 (((x_X7_passes (up3 (x_X7_readsNumber ((x_X7_readsDigit ((x_X7_readsDigit m (5 * (ix (m 0 0 4))) 4).1) ((5 * (ix (m 0 0 4))) + 1) 3).1) 4 0 1999).1 6 0 ((5 * (ix (m 0 0 4))) + 2) ((x_X7_readsNumber ((x_X7_readsDigit ((x_X7_readsDigit m (5 * (ix (m 0 0 4))) 4).1) ((5 * (ix (m 0 0 4))) + 1) 3).1) 4 0 1999).1 0 0 5)) 44).1 6 0 ((5 * (ix (m 0 0 4))) + 2)) + 1) 1999).1 0 0 5)) 6 0 ((5 * (ix (m 0 0 4))) + 4) 100) 112).1) 3 0 400).1 0 0 5)) 59).2)) else ((x_X7_readsNumber ((x_X7_passes (up3 (up3 (x_X7_readsNumber ((x_X7_passes (up3 (x_X7_readsNumber ((x_X7_readsDigit ((x_X7_readsDigit m (5 * (ix (m 0 0 4))) 4).1) ((5 * (ix (m 0 0 4))) + 1) 3).1) 4 0 1999).1 6 0 ((5 * (ix (m 0 0 4))) + 2) ((x_X7_readsNumber ((x_X7_readsDigit ((x_X7_readsDigit m (5 * (ix (m 0 0 4))) 4).1) ((5 * (ix (m 0 0 4))) + 1) 3).1) 4 0 1999).1 0 0 5)) 44).1) 4 (((x_X7_passes (up3 (x_X7_readsNumber ((x_X7_readsDigit ((x_X7_readsDigit m (5 * (ix (m 0 0 4))) 4).1) ((5 * (ix (m 0 0 4))) + 1) 3).1) 4 0 1999).1 6 0 ((5 * (ix (m 0 0 4))) + 2) ((x_X7_readsNumber ((x_X7_readsDigit ((x_X7_readsDigit m (5 * (ix (m 0 0 4))) 4).1) ((5 * (ix (m 0 0 4))) + 1) 3).1) 4 0 1999).1 0 0 5)) 44).1 6 0 ((5 * (ix (m 0 0 4))) + 2)) + 1) 1999).1 6 0 ((5 * (ix (m 0 0 4))) + 3) ((x_X7_readsNumber ((x_X7_passes (up3 (x_X7_readsNumber ((x_X7_readsDigit ((x_X7_readsDigit m (5 * (ix (m 0 0 4))) 4).1) ((5 * (ix (m 0 0 4))) + 1) 3).1) 4 0 1999).1 6 0 ((5 * (ix (m 0 0 4))) + 2) ((x_X7_readsNumber ((x_X7_readsDigit ((x_X7_readsDigit m (5 * (ix (m 0 0 4))) 4).1) ((5 * (ix (m 0 0 4))) + 1) 3).1) 4 0 1999).1 0 0 5)) 44).1) 4 (((x_X7_passes (up3 (x_X7_readsNumber ((x_X7_readsDigit ((x_X7_readsDigit m (5 * (ix (m 0 0 4))) 4).1) ((5 * (ix (m 0 0 4))) + 1) 3).1) 4 0 1999).1 6 0 ((5 * (ix (m 0 0 4))) + 2) ((x_X7_readsNumber ((x_X7_readsDigit ((x_X7_readsDigit m (5 * (ix (m 0 0 4))) 4).1) ((5 * (ix (m 0 0 4))) + 1) 3).1) 4 0 1999).1 0 0 5)) 44).1 6 0 ((5 * (ix (m 0 0 4))) + 2)) + 1) 1999).1 0 0 5)) 6 0 ((5 * (ix (m 0 0 4))) + 4) 100) 112).1) 3 0 400).1, false)) else (if (x_X7_passes ((x_X7_passes (up3 (up3 (x_X7_readsNumber ((x_X7_passes (up3 (x_X7_readsNumber ((x_X7_readsDigit ((x_X7_readsDigit m (5 * (ix (m 0 0 4))) 4).1) ((5 * (ix (m 0 0 4))) + 1) 3).1) 4 0 1999).1 6 0 ((5 * (ix (m 0 0 4))) + 2) ((x_X7_readsNumber ((x_X7_readsDigit ((x_X7_readsDigit m (5 * (ix (m 0 0 4))) 4).1) ((5 * (ix (m 0 0 4))) + 1) 3).1) 4 0 1999).1 0 0 5)) 44).1) 4 (((x_X7_passes (up3 (x_X7_readsNumber ((x_X7_readsDigit ((x_X7_readsDigit m (5 * (ix (m 0 0 4))) 4).1) ((5 * (ix (m 0 0 4))) + 1) 3).1) 4 0 1999).1 6 0 ((5 * (ix (m 0 0 4))) + 2) ((x_X7_readsNumber ((x_X7_readsDigit ((x_X7_readsDigit m (5 * (ix (m 0 0 4))) 4).1) ((5 * (ix (m 0 0 4))) + 1) 3).1) 4 0 1999).1 0 0 5)) 44).1 6 0 ((5 * (ix (m 0 0 4))) + 2)) + 1) 1999).1 6 0 ((5 * (ix (m 0 0 4))) + 3) ((x_X7_readsNumber ((x_X7_passes (up3 (x_X7_readsNumber ((x_X7_readsDigit ((x_X7_readsDigit m (5 * (ix (m 0 0 4))) 4).1) ((5 * (ix (m 0 0 4))) + 1) 3).1) 4 0 1999).1 6 0 ((5 * (ix (m 0 0 4))) + 2) ((x_X7_readsNumber ((x_X7_readsDigit ((x_X7_readsDigit m (5 * (ix (m 0 0 4))) 4).1) ((5 * (ix (m 0 0 4))) + 1) 3).1) 4 0 1999).1 0 0 5)) 44).1) 4 (((x_X7_passes (up3 (x_X7_readsNumber ((x_X7_readsDigit ((x_X7_readsDigit m (5 * (ix (m 0 0 4))) 4).1) ((5 * (ix (m 0 0 4))) + 1) 3).1) 4 0 1999).1 6 0 ((5 * (ix (m 0 0 4))) + 2) ((x_X7_readsNumber ((x_X7_readsDigit ((x_X7_readsDigit m (5 * (ix (m 0 0 4))) 4).1) ((5 * (ix (m 0 0 4))) + 1) 3).1) 4 0 1999).1 0 0 5)) 44).1 6 0 ((5 * (ix (m 0 0 4))) + 2)) + 1) 1999).1 0 0 5)) 6 0 ((5 * (ix (m 0 0 4))) + 4) 100) 112).1) 59).2 = true then ((up3 (x_X7_passes ((x_X7_passes (up3 (up3 (x_X7_readsNumber ((x_X7_passes (up3 (x_X7_readsNumber ((x_X7_readsDigit ((x_X7_readsDigit m (5 * (ix (m 0 0 4))) 4).1) ((5 * (ix (m 0 0 4))) + 1) 3).1) 4 0 1999).1 6 0 ((5 * (ix (m 0 0 4))) + 2) ((x_X7_readsNumber ((x_X7_readsDigit ((x_X7_readsDigit m (5 * (ix (m 0 0 4))) 4).1) ((5 * (ix (m 0 0 4))) + 1) 3).1) 4 0 1999).1 0 0 5)) 44).1) 4 (((x_X7_passes (up3 (x_X7_readsNumber ((x_X7_readsDigit ((x_X7_readsDigit m (5 * (ix (m 0 0 4))) 4).1) ((5 * (ix (m 0 0 4))) + 1) 3).1) 4 0 1999).1 6 0 ((5 * (ix (m 0 0 4))) + 2) ((x_X7_readsNumber ((x_X7_readsDigit ((x_X7_readsDigit m (5 * (ix (m 0 0 4))) 4).1) ((5 * (ix (m 0 0 4))) + 1) 3).1) 4 0 1999).1 0 0 5)) 44).1 6 0 ((5 * (ix (m 0 0 4))) + 2)) + 1) 1999).1 6 0 ((5 * (ix (m 0 0 4))) + 3) ((x_X7_readsNumber ((x_X7_passes (up3 (x_X7_readsNumber ((x_X7_readsDigit ((x_X7_readsDigit m (5 * (ix (m 0 0 4))) 4).1) ((5 * (ix (m 0 0 4))) + 1) 3).1) 4 0 1999).1 6 0 ((5 * (ix (m 0 0 4))) + 2) ((x_X7_readsNumber ((x_X7_readsDigit ((x_X7_readsDigit m (5 * (ix (m 0 0 4))) 4).1) ((5 * (ix (m 0 0 4))) + 1) 3).1) 4 0 1999).1 0 0 5)) 44).1) 4 (((x_X7_passes (up3 (x_X7_readsNumber ((x_X7_readsDigit ((x_X7_readsDigit m (5 * (ix (m 0 0 4))) 4).1) ((5 * (ix (m 0 0 4))) + 1) 3).1) 4 0 1999).1 6 0 ((5 * (ix (m 0 0 4))) + 2) ((x_X7_readsNumber ((x_X7_readsDigit ((x_X7_readsDigit m (5 * (ix (m 0 0 4))) 4).1) ((5 * (ix (m 0 0 4))) + 1) 3).1) 4 0 1999).1 0 0 5)) 44).1 6 0 ((5 * (ix (m 0 0 4))) + 2)) + 1) 1999).1 0 0 5)) 6 0 ((5 * (ix (m 0 0 4))) + 4) 100) 112).1) 59).1 0 0 4 (((x_X7_passes ((x_X7_passes (up3 (up3 (x_X7_readsNumber ((x_X7_passes (up3 (x_X7_readsNumber ((x_X7_readsDigit ((x_X7_readsDigit m (5 * (ix (m 0 0 4))) 4).1) ((5 * (ix (m 0 0 4))) + 1) 3).1) 4 0 1999).1 6 0 ((5 * (ix (m 0 0 4))) + 2) ((x_X7_readsNumber ((x_X7_readsDigit ((x_X7_readsDigit m (5 * (ix (m 0 0 4))) 4).1) ((5 * (ix (m 0 0 4))) + 1) 3).1) 4 0 1999).1 0 0 5)) 44).1) 4 (((x_X7_passes (up3 (x_X7_readsNumber ((x_X7_readsDigit ((x_X7_readsDigit m (5 * (ix (m 0 0 4))) 4).1) ((5 * (ix (m 0 0 4))) + 1) 3).1) 4 0 1999).1 6 0 ((5 * (ix (m 0 0 4))) + 2) ((x_X7_readsNumber ((x_X7_readsDigit ((x_X7_readsDigit m (5 * (ix (m 0 0 4))) 4).1) ((5 * (ix (m 0 0 4))) + 1) 3).1) 4 0 1999).1 0 0 5)) 44).1 6 0 ((5 * (ix (m 0 0 4))) + 2)) + 1) 1999).1 6 0 ((5 * (ix (m 0 0 4))) + 3) ((x_X7_readsNumber ((x_X7_passes (up3 (x_X7_readsNumber ((x_X7_readsDigit ((x_X7_readsDigit m (5 * (ix (m 0 0 4))) 4).1) ((5 * (ix (m 0 0 4))) + 1) 3).1) 4 0 1999).1 6 0 ((5 * (ix (m 0 0 4))) + 2) ((x_X7_readsNumber ((x_X7_readsDigit ((x_X7_readsDigit m (5 * (ix (m 0 0 4))) 4).1) ((5 * (ix (m 0 0 4))) + 1) 3).1) 4 0 1999).1 0 0 5)) 44).1) 4 (((x_X7_passes (up3 (x_X7_readsNumber ((x_X7_readsDigit ((x_X7_readsDigit m (5 * (ix (m 0 0 4))) 4).1) ((5 * (ix (m 0 0 4))) + 1) 3).1) 4 0 1999).1 6 0 ((5 * (ix (m 0 0 4))) + 2) ((x_X7_readsNumber ((x_X7_readsDigit ((x_X7_readsDigit m (5 * (ix (m 0 0 4))) 4).1) ((5 * (ix (m 0 0 4))) + 1) 3).1) 4 0 1999).1 0 0 5)) 44).1 6 0 ((5 * (ix (m 0 0 4))) + 2)) + 1) 1999).1 0 0 5)) 6 0 ((5 * (ix (m 0 0 4))) + 4) 100) 112).1) 59).1 0 0 4) + 1)), (x_X7_passes ((x_X7_passes (up3 (up3 (x_X7_readsNumber ((x_X7_passes (up3 (x_X7_readsNumber ((x_X7_readsDigit ((x_X7_readsDigit m (5 * (ix (m 0 0 4))) 4).1) ((5 * (ix (m 0 0 4))) + 1) 3).1) 4 0 1999).1 6 0 ((5 * (ix (m 0 0 4))) + 2) ((x_X7_readsNumber ((x_X7_readsDigit ((x_X7_readsDigit m (5 * (ix (m 0 0 4))) 4).1) ((5 * (ix (m 0 0 4))) + 1) 3).1) 4 0 1999).1 0 0 5)) 44).1) 4 (((x_X7_passes (up3 (x_X7_readsNumber ((x_X7_readsDigit ((x_X7_readsDigit m (5 * (ix (m 0 0 4))) 4).1) ((5 * (ix (m 0 0 4))) + 1) 3).1) 4 0 1999).1 6 0 ((5 * (ix (m 0 0 4))) + 2) ((x_X7_readsNumber ((x_X7_readsDigit ((x_X7_readsDigit m (5 * (ix (m 0 0 4))) 4).1) ((5 * (ix (m 0 0 4))) + 1) 3).1) 4 0 1999).1 0 0 5)) 44).1 6 0 ((5 * (ix (m 0 0 4))) + 2)) + 1) 1999).1 6 0 ((5 * (ix (m 0 0 4))) + 3) ((x_X7_readsNumber ((x_X7_passes (up3 (x_X7_readsNumber ((x_X7_readsDigit ((x_X7_readsDigit m (5 * (ix (m 0 0 4))) 4).1) ((5 * (ix (m 0 0 4))) + 1) 3).1) 4 0 1999).1 6 0 ((5 * (ix (m 0 0 4))) + 2) ((x_X7_readsNumber ((x_X7_readsDigit ((x_X7_readsDigit m (5 * (ix (m 0 0 4))) 4).1) ((5 * (ix (m 0 0 4))) + 1) 3).1) 4 0 1999).1 0 0 5)) 44).1) 4 (((x_X7_passes (up3 (x_X7_readsNumber ((x_X7_readsDigit ((x_X7_readsDigit m (5 * (ix (m 0 0 4))) 4).1) ((5 * (ix (m 0 0 4))) + 1) 3).1) 4 0 1999).1 6 0 ((5 * (ix (m 0 0 4))) + 2) ((x_X7_readsNumber ((x_X7_readsDigit ((x_X7_readsDigit m (5 * (ix (m 0 0 4))) 4).1) ((5 * (ix (m 0 0 4))) + 1) 3).1) 4 0 1999).1 0 0 5)) 44).1 6 0 ((5 * (ix (m 0 0 4))) + 2)) + 1) 1999).1 0 0 5)) 6 0 ((5 * (ix (m 0 0 4))) + 4) 100) 112).1) 59).2) else ((up3 (x_X7_passes ((x_X7_passes (up3 (up3 (x_X7_readsNumber ((x_X7_passes (up3 (x_X7_readsNumber ((x_X7_readsDigit ((x_X7_readsDigit m (5 * (ix (m 0 0 4))) 4).1) ((5 * (ix (m 0 0 4))) + 1) 3).1) 4 0 1999).1 6 0 ((5 * (ix (m 0 0 4))) + 2) ((x_X7_readsNumber ((x_X7_readsDigit ((x_X7_readsDigit m (5 * (ix (m 0 0 4))) 4).1) ((5 * (ix (m 0 0 4))) + 1) 3).1) 4 0 1999).1 0 0 5)) 44).1) 4 (((x_X7_passes (up3 (x_X7_readsNumber ((x_X7_readsDigit ((x_X7_readsDigit m (5 * (ix (m 0 0 4))) 4).1) ((5 * (ix (m 0 0 4))) + 1) 3).1) 4 0 1999).1 6 0 ((5 * (ix (m 0 0 4))) + 2) ((x_X7_readsNumber ((x_X7_readsDigit ((x_X7_readsDigit m (5 * (ix (m 0 0 4))) 4).1) ((5 * (ix (m 0 0 4))) + 1) 3).1) 4 0 1999).1 0 0 5)) 44).1 6 0 ((5 * (ix (m 0 0 4))) + 2)) + 1) 1999).1 6 0 ((5 * (ix (m 0 0 4))) + 3) ((x_X7_readsNumber ((x_X7_passes (up3 (x_X7_readsNumber ((x_X7_readsDigit ((x_X7_readsDigit m (5 * (ix (m 0 0 4))) 4).1) ((5 * (ix (m 0 0 4))) + 1) 3).1) 4 0 1999).1 6 0 ((5 * (ix (m 0 0 4))) + 2) ((x_X7_readsNumber ((x_X7_readsDigit ((x_X7_readsDigit m (5 * (ix (m 0 0 4))) 4).1) ((5 * (ix (m 0 0 4))) + 1) 3).1) 4 0 1999).1 0 0 5)) 44).1) 4 (((x_X7_passes (up3 (x_X7_readsNumber ((x_X7_readsDigit ((x_X7_readsDigit m (5 * (ix (m 0 0 4))) 4).1) ((5 * (ix (m 0 0 4))) + 1) 3).1) 4 0 1999).1 6 0 ((5 * (ix (m 0 0 4))) + 2) ((x_X7_readsNumber ((x_X7_readsDigit ((x_X7_readsDigit m (5 * (ix (m 0 0 4))) 4).1) ((5 * (ix (m 0 0 4))) + 1) 3).1) 4 0 1999).1 0 0 5)) 44).1 6 0 ((5 * (ix (m 0 0 4))) + 2)) + 1) 1999).1 0 0 5)) 6 0 ((5 * (ix (m 0 0 4))) + 4) 100) 112).1) 59).1 0 0 4 (((x_X7_passes ((x_X7_passes (up3 (up3 (x_X7_readsNumber ((x_X7_passes (up3 (x_X7_readsNumber ((x_X7_readsDigit ((x_X7_readsDigit m (5 * (ix (m 0 0 4))) 4).1) ((5 * (ix (m 0 0 4))) + 1) 3).1) 4 0 1999).1 6 0 ((5 * (ix (m 0 0 4))) + 2) ((x_X7_readsNumber ((x_X7_readsDigit ((x_X7_readsDigit m (5 * (ix (m 0 0 4))) 4).1) ((5 * (ix (m 0 0 4))) + 1) 3).1) 4 0 1999).1 0 0 5)) 44).1) 4 (((x_X7_passes (up3 (x_X7_readsNumber ((x_X7_readsDigit ((x_X7_readsDigit m (5 * (ix (m 0 0 4))) 4).1) ((5 * (ix (m 0 0 4))) + 1) 3).1) 4 0 1999).1 6 0 ((5 * (ix (m 0 0 4))) + 2) ((x_X7_readsNumber ((x_X7_readsDigit ((x_X7_readsDigit m (5 * (ix (m 0 0 4))) 4).1) ((5 * (ix (m 0 0 4))) + 1) 3).1) 4 0 1999).1 0 0 5)) 44).1 6 0 ((5 * (ix (m 0 0 4))) + 2)) + 1) 1999).1 6 0 ((5 * (ix (m 0 0 4))) + 3) ((x_X7_readsNumber ((x_X7_passes (up3 (x_X7_readsNumber ((x_X7_readsDigit ((x_X7_readsDigit m (5 * (ix (m 0 0 4))) 4).1) ((5 * (ix (m 0 0 4))) + 1) 3).1) 4 0 1999).1 6 0 ((5 * (ix (m 0 0 4))) + 2) ((x_X7_readsNumber ((x_X7_readsDigit ((x_X7_readsDigit m (5 * (ix (m 0 0 4))) 4).1) ((5 * (ix (m 0 0 4))) + 1) 3).1) 4 0 1999).1 0 0 5)) 44).1) 4 (((x_X7_passes (up3 (x_X7_readsNumber ((x_X7_readsDigit ((x_X7_readsDigit m (5 * (ix (m 0 0 4))) 4).1) ((5 * (ix (m 0 0 4))) + 1) 3).1) 4 0 1999).1 6 0 ((5 * (ix (m 0 0 4))) + 2) ((x_X7_readsNumber ((x_X7_readsDigit ((x_X7_readsDigit m (5 * (ix (m 0 0 4))) 4).1) ((5 * (ix (m 0 0 4))) + 1) 3).1) 4 0 1999).1 0 0 5)) 44).1 6 0 ((5 * (ix (m 0 0 4))) + 2)) + 1) 1999).1 0 0 5)) 6 0 ((5 * (ix (m 0 0 4))) + 4) 100) 112).1) 59).1 0 0 4) + 0)), (x_X7_passes ((x_X7_passes (up3 (up3 (x_X7_readsNumber ((x_X7_passes (up3 (x_X7_readsNumber ((x_X7_readsDigit ((x_X7_readsDigit m (5 * (ix (m 0 0 4))) 4).1) ((5 * (ix (m 0 0 4))) + 1) 3).1) 4 0 1999).1 6 0 ((5 * (ix (m 0 0 4))) + 2) ((x_X7_readsNumber ((x_X7_readsDigit ((x_X7_readsDigit m (5 * (ix (m 0 0 4))) 4).1) ((5 * (ix (m 0 0 4))) + 1) 3).1) 4 0 1999).1 0 0 5)) 44).1) 4 (((x_X7_passes (up3 (x_X7_readsNumber ((x_X7_readsDigit ((x_X7_readsDigit m (5 * (ix (m 0 0 4))) 4).1) ((5 * (ix (m 0 0 4))) + 1) 3).1) 4 0 1999).1 6 0 ((5 * (ix (m 0 0 4))) + 2) ((x_X7_readsNumber ((x_X7_readsDigit ((x_X7_readsDigit m (5 * (ix (m 0 0 4))) 4).1) ((5 * (ix (m 0 0 4))) + 1) 3).1) 4 0 1999).1 0 0 5)) 44).1 6 0 ((5 * (ix (m 0 0 4))) + 2)) + 1) 1999).1 6 0 ((5 * (ix (m 0 0 4))) + 3) ((x_X7_readsNumber ((x_X7_passes (up3 (x_X7_readsNumber ((x_X7_readsDigit ((x_X7_readsDigit m (5 * (ix (m 0 0 4))) 4).1) ((5 * (ix (m 0 0 4))) + 1) 3).1) 4 0 1999).1 6 0 ((5 * (ix (m 0 0 4))) + 2) ((x_X7_readsNumber ((x_X7_readsDigit ((x_X7_readsDigit m (5 * (ix (m 0 0 4))) 4).1) ((5 * (ix (m 0 0 4))) + 1) 3).1) 4 0 1999).1 0 0 5)) 44).1) 4 (((x_X7_passes (up3 (x_X7_readsNumber ((x_X7_readsDigit ((x_X7_readsDigit m (5 * (ix (m 0 0 4))) 4).1) ((5 * (ix (m 0 0 4))) + 1) 3).1) 4 0 1999).1 6 0 ((5 * (ix (m 0 0 4))) + 2) ((x_X7_readsNumber ((x_X7_readsDigit ((x_X7_readsDigit m (5 * (ix (m 0 0 4))) 4).1) ((5 * (ix (m 0 0 4))) + 1) 3).1) 4 0 1999).1 0 0 5)) 44).1 6 0 ((5 * (ix (m 0 0 4))) + 2)) + 1) 1999).1 0 0 5)) 6 0 ((5 * (ix (m 0 0 4))) + 4) 100) 112).1) 59).2))) else ((x_X7_readsNumber ((x_X7_passes (up3 (x_X7_readsNumber ((x_X7_readsDigit ((x_X7_readsDigit m (5 * (ix (m 0 0 4))) 4).1) ((5 * (ix (m 0 0 4))) + 1) 3).1) 4 0 1999).1 6 0 ((5 * (ix (m 0 0 4))) + 2) ((x_X7_readsNumber ((x_X7_readsDigit ((x_X7_readsDigit m (5 * (ix (m 0 0 4))) 4).1) ((5 * (ix (m 0 0 4))) + 1) 3).1) 4 0 1999).1 0 0 5)) 44).1) 4 (((x_X7_passes (up3 (x_X7_readsNumber ((x_X7_readsDigit ((x_X7_readsDigit m (5 * (ix (m 0 0 4))) 4).1) ((5 * (ix (m 0 0 4))) + 1) 3).1) 4 0 1999).1 6 0 ((5 * (ix (m 0 0 4))) + 2) ((x_X7_readsNumber ((x_X7_readsDigit ((x_X7_readsDigit m (5 * (ix (m 0 0 4))) 4).1) ((5 * (ix (m 0 0 4))) + 1) 3).1) 4 0 1999).1 0 0 5)) 44).1 6 0 ((5 * (ix (m 0 0 4))) + 2)) + 1) 1999).1, false)) else ((x_X7_passes (up3 (x_X7_readsNumber ((x_X7_readsDigit ((x_X7_readsDigit m (5 * (ix (m 0 0 4))) 4).1) ((5 * (ix (m 0 0 4))) + 1) 3).1) 4 0 1999).1 6 0 ((5 * (ix (m 0 0 4))) + 2) ((x_X7_readsNumber ((x_X7_readsDigit ((x_X7_readsDigit m (5 * (ix (m 0 0 4))) 4).1) ((5 * (ix (m 0 0 4))) + 1) 3).1) 4 0 1999).1 0 0 5)) 44).1, false)) else ((x_X7_readsNumber ((x_X7_readsDigit ((x_X7_readsDigit m (5 * (ix (m 0 0 4))) 4).1) ((5 * (ix (m 0 0 4))) + 1) 3).1) 4 0 1999).1, false)) else ((x_X7_readsDigit ((x_X7_readsDigit m (5 * (ix (m 0 0 4))) 4).1) ((5 * (ix (m 0 0 4))) + 1) 3).1, false)) else ((x_X7_readsDigit m (5 * (ix (m 0 0 4))) 4).1, false)))
theorem xe_X7_readsPlane : ∃ f, f = y_X7_readsPlane := ⟨y_X7_readsPlane, rfl⟩
noncomputable def x_X7_readsPlane := Classical.choose xe_X7_readsPlane
theorem x_X7_readsPlane_eq : x_X7_readsPlane = y_X7_readsPlane := Classical.choose_spec xe_X7_readsPlane
theorem ev_X7_readsPlane {d n c s b : Nat} {m : Mem} {M : JM} {B : Nat} {m0 : Mem} {res : Mem × Bool} (hd : 3 ≤ d) (hW : TW B m0 m) (hB : B + 0 < 2147483648)  (hx : x_X7_readsPlane m = res) : Ev mtab mcode d 152 [.ref b] (n, c, s, mm b m M) (.inl (some (.int (bI res.2)))) (n, c, s, mm b res.1 M) := by
  obtain ⟨d, rfl⟩ : ∃ e, d = e + 1 := ⟨d - 1, by omega⟩
  rw [x_X7_readsPlane_eq] at hx
  unfold y_X7_readsPlane at hx
  refine jv_mk (m := mX7_readsPlane) (cd := jcX7_readsPlane) rfl rfl (Nat.le_of_ble_eq_true rfl) (bI_or _) ?_
  refine JV.stk (len := 1) (sem := (s_push (.int 5))) (p2 := 1) rfl rfl rfl ?_
  refine JV.ald (p2 := 2) rfl rfl rfl ?_
  refine JV.getf (p2 := 5) rfl mm_M rfl rfl ?_
  refine JV.stk (len := 1) (sem := s_imul) (p2 := 6) rfl rfl rfl ?_
  refine JV.ist (p2 := 7) rfl rfl rfl ?_
  refine JV.ald (p2 := 8) rfl rfl rfl ?_
  refine JV.getf (p2 := 11) rfl mm_M rfl rfl ?_
  refine JV.stk (len := 2) (sem := (s_push (.int 12))) (p2 := 13) rfl rfl rfl ?_
  by_cases h13 : (m 0 0 4) = 12
  · rw [if_pos h13] at hx
    refine JV.brT rfl rfl h13 ?_
    refine JV.stk (len := 1) (sem := (s_push (.int 0))) (p2 := 49) rfl rfl rfl ?_
    subst hx
    exact JV.ret rfl (fun _ => rfl) rfl rfl
  · rw [if_neg h13] at hx
    refine JV.brF (p2 := 16) rfl rfl rfl h13 ?_
    have b16 : ix (m 0 0 4) < 12 := vn_12 hW.2.1.2.2 h13
    refine JV.ald (p2 := 17) rfl rfl rfl ?_
    refine JV.ild (p2 := 18) rfl rfl rfl ?_
    refine JV.stk (len := 1) (sem := (s_push (.int 4))) (p2 := 19) rfl rfl rfl ?_
    refine JV.invI (p2 := 22) rfl rfl rfl mm_M (Nat.le_of_ble_eq_true rfl) rfl (ev_X7_readsDigit (a := (5 * (ix (m 0 0 4)))) (by omega) (nI_mulE rfl hW.2.1.2.2.1) (tw_nn hW) hW.2.1.2.1 (by omega) rfl) ?_
    by_cases h22 : (x_X7_readsDigit m (5 * (ix (m 0 0 4))) 4).2 = true
    · rw [if_pos h22] at hx
      refine JV.brF (p2 := 25) rfl rfl rfl (bI_t h22) ?_
      refine JV.ald (p2 := 26) rfl rfl rfl ?_
      refine JV.ild (p2 := 27) rfl rfl rfl ?_
      refine JV.stk (len := 1) (sem := (s_push (.int 1))) (p2 := 28) rfl rfl rfl ?_
      refine JV.stk (len := 1) (sem := s_iadd) (p2 := 29) rfl rfl rfl ?_
      refine JV.stk (len := 1) (sem := (s_push (.int 3))) (p2 := 30) rfl rfl rfl ?_
      refine JV.invI (p2 := 33) rfl rfl rfl mm_M (Nat.le_of_ble_eq_true rfl) rfl (ev_X7_readsDigit (a := ((5 * (ix (m 0 0 4))) + 1)) (by omega) (nI_addE (nI_mulE rfl hW.2.1.2.2.1) rfl) (tw_nn (fw_X7_readsDigit (a := (5 * (ix (m 0 0 4)))) (p2 := 4) hW)) (fw_X7_readsDigit (a := (5 * (ix (m 0 0 4)))) (p2 := 4) hW).2.1.2.1 (by omega) rfl) ?_
      by_cases h33 : (x_X7_readsDigit ((x_X7_readsDigit m (5 * (ix (m 0 0 4))) 4).1) ((5 * (ix (m 0 0 4))) + 1) 3).2 = true
      · rw [if_pos h33] at hx
        refine JV.brF (p2 := 36) rfl rfl rfl (bI_t h33) ?_
        refine JV.ald (p2 := 37) rfl rfl rfl ?_
        refine JV.stk (len := 1) (sem := (s_push (.int 4))) (p2 := 38) rfl rfl rfl ?_
        refine JV.stk (len := 1) (sem := (s_push (.int 0))) (p2 := 39) rfl rfl rfl ?_
        refine JV.stk (len := 3) (sem := (s_push (.int 1999))) (p2 := 42) rfl rfl rfl ?_
        refine JV.invI (p2 := 45) rfl rfl rfl mm_M (Nat.le_of_ble_eq_true rfl) rfl (ev_X7_readsNumber (g := 4) (by omega) rfl (fw_X7_readsDigit (a := ((5 * (ix (m 0 0 4))) + 1)) (p2 := 3) (fw_X7_readsDigit (a := (5 * (ix (m 0 0 4)))) (p2 := 4) hW)) (by omega) (by omega) rfl) ?_
        by_cases h45 : (x_X7_readsNumber ((x_X7_readsDigit ((x_X7_readsDigit m (5 * (ix (m 0 0 4))) 4).1) ((5 * (ix (m 0 0 4))) + 1) 3).1) 4 0 1999).2 = true
        · rw [if_pos h45] at hx
          refine JV.brT rfl rfl (bI_t h45) ?_
          refine JV.ald (p2 := 51) rfl rfl rfl ?_
          refine JV.getf (p2 := 54) rfl mm_M rfl rfl ?_
          refine JV.ild (p2 := 55) rfl rfl rfl ?_
          refine JV.stk (len := 1) (sem := (s_push (.int 2))) (p2 := 56) rfl rfl rfl ?_
          refine JV.stk (len := 1) (sem := s_iadd) (p2 := 57) rfl rfl rfl ?_
          refine JV.ald (p2 := 58) rfl rfl rfl ?_
          refine JV.getf (p2 := 61) rfl mm_M rfl rfl ?_
          refine JV.iast (p2 := 62) (j := ((5 * (ix (m 0 0 4))) + 2)) rfl mm_6 (nI_addE (nI_mulE rfl hW.2.1.2.2.1) rfl) (by omega) (by decide) (mm_w6 (k := ((5 * (ix (m 0 0 4))) + 2)) rfl) rfl ?_
          refine JV.ald (p2 := 63) rfl rfl rfl ?_
          refine JV.stk (len := 2) (sem := (s_push (.int 44))) (p2 := 65) rfl rfl rfl ?_
          refine JV.invI (p2 := 68) rfl rfl rfl mm_M (Nat.le_of_ble_eq_true rfl) rfl (ev_X7_passes (by omega) (tw_nn (TW.r (fw_X7_readsNumber (g := 4) (p2 := 0) (p3 := 1999) rfl (fw_X7_readsDigit (a := ((5 * (ix (m 0 0 4))) + 1)) (p2 := 3) (fw_X7_readsDigit (a := (5 * (ix (m 0 0 4)))) (p2 := 4) hW)) (by omega) (by omega)))) (TW.r (fw_X7_readsNumber (g := 4) (p2 := 0) (p3 := 1999) rfl (fw_X7_readsDigit (a := ((5 * (ix (m 0 0 4))) + 1)) (p2 := 3) (fw_X7_readsDigit (a := (5 * (ix (m 0 0 4)))) (p2 := 4) hW)) (by omega) (by omega))).2.1.2.1 rfl) ?_
          by_cases h68 : (x_X7_passes (up3 (x_X7_readsNumber ((x_X7_readsDigit ((x_X7_readsDigit m (5 * (ix (m 0 0 4))) 4).1) ((5 * (ix (m 0 0 4))) + 1) 3).1) 4 0 1999).1 6 0 ((5 * (ix (m 0 0 4))) + 2) ((x_X7_readsNumber ((x_X7_readsDigit ((x_X7_readsDigit m (5 * (ix (m 0 0 4))) 4).1) ((5 * (ix (m 0 0 4))) + 1) 3).1) 4 0 1999).1 0 0 5)) 44).2 = true
          · rw [if_pos h68] at hx
            refine JV.brF (p2 := 71) rfl rfl rfl (bI_t h68) ?_
            refine JV.ald (p2 := 72) rfl rfl rfl ?_
            refine JV.stk (len := 1) (sem := (s_push (.int 4))) (p2 := 73) rfl rfl rfl ?_
            refine JV.ald (p2 := 74) rfl rfl rfl ?_
            refine JV.getf (p2 := 77) rfl mm_M rfl rfl ?_
            refine JV.ild (p2 := 78) rfl rfl rfl ?_
            refine JV.stk (len := 1) (sem := (s_push (.int 2))) (p2 := 79) rfl rfl rfl ?_
            refine JV.stk (len := 1) (sem := s_iadd) (p2 := 80) rfl rfl rfl ?_
            refine JV.iald (p2 := 81) (j := ((5 * (ix (m 0 0 4))) + 2)) rfl mm_6 (nI_addE (nI_mulE rfl hW.2.1.2.2.1) rfl) (by omega) (by decide) rfl ?_
            refine JV.stk (len := 1) (sem := (s_push (.int 1))) (p2 := 82) rfl rfl rfl ?_
            refine JV.stk (len := 1) (sem := s_iadd) (p2 := 83) rfl rfl rfl ?_
            refine JV.stk (len := 3) (sem := (s_push (.int 1999))) (p2 := 86) rfl rfl rfl ?_
            refine JV.invI (p2 := 89) rfl rfl rfl mm_M (Nat.le_of_ble_eq_true rfl) rfl (ev_X7_readsNumber (g := 4) (by omega) rfl (fw_X7_passes (p1 := 44) (TW.r (fw_X7_readsNumber (g := 4) (p2 := 0) (p3 := 1999) rfl (fw_X7_readsDigit (a := ((5 * (ix (m 0 0 4))) + 1)) (p2 := 3) (fw_X7_readsDigit (a := (5 * (ix (m 0 0 4)))) (p2 := 4) hW)) (by omega) (by omega))) (by decide)) (by omega) (by omega) rfl) ?_
            by_cases h89 : (x_X7_readsNumber ((x_X7_passes (up3 (x_X7_readsNumber ((x_X7_readsDigit ((x_X7_readsDigit m (5 * (ix (m 0 0 4))) 4).1) ((5 * (ix (m 0 0 4))) + 1) 3).1) 4 0 1999).1 6 0 ((5 * (ix (m 0 0 4))) + 2) ((x_X7_readsNumber ((x_X7_readsDigit ((x_X7_readsDigit m (5 * (ix (m 0 0 4))) 4).1) ((5 * (ix (m 0 0 4))) + 1) 3).1) 4 0 1999).1 0 0 5)) 44).1) 4 (((x_X7_passes (up3 (x_X7_readsNumber ((x_X7_readsDigit ((x_X7_readsDigit m (5 * (ix (m 0 0 4))) 4).1) ((5 * (ix (m 0 0 4))) + 1) 3).1) 4 0 1999).1 6 0 ((5 * (ix (m 0 0 4))) + 2) ((x_X7_readsNumber ((x_X7_readsDigit ((x_X7_readsDigit m (5 * (ix (m 0 0 4))) 4).1) ((5 * (ix (m 0 0 4))) + 1) 3).1) 4 0 1999).1 0 0 5)) 44).1 6 0 ((5 * (ix (m 0 0 4))) + 2)) + 1) 1999).2 = true
            · rw [if_pos h89] at hx
              refine JV.brT rfl rfl (bI_t h89) ?_
              refine JV.ald (p2 := 95) rfl rfl rfl ?_
              refine JV.getf (p2 := 98) rfl mm_M rfl rfl ?_
              refine JV.ild (p2 := 99) rfl rfl rfl ?_
              refine JV.stk (len := 1) (sem := (s_push (.int 3))) (p2 := 100) rfl rfl rfl ?_
              refine JV.stk (len := 1) (sem := s_iadd) (p2 := 101) rfl rfl rfl ?_
              refine JV.ald (p2 := 102) rfl rfl rfl ?_
              refine JV.getf (p2 := 105) rfl mm_M rfl rfl ?_
              refine JV.iast (p2 := 106) (j := ((5 * (ix (m 0 0 4))) + 3)) rfl mm_6 (nI_addE (nI_mulE rfl hW.2.1.2.2.1) rfl) (by omega) (by decide) (mm_w6 (k := ((5 * (ix (m 0 0 4))) + 3)) rfl) rfl ?_
              refine JV.ald (p2 := 107) rfl rfl rfl ?_
              refine JV.getf (p2 := 110) rfl mm_M rfl rfl ?_
              refine JV.ild (p2 := 111) rfl rfl rfl ?_
              refine JV.stk (len := 1) (sem := (s_push (.int 4))) (p2 := 112) rfl rfl rfl ?_
              refine JV.stk (len := 1) (sem := s_iadd) (p2 := 113) rfl rfl rfl ?_
              refine JV.stk (len := 2) (sem := (s_push (.int 100))) (p2 := 115) rfl rfl rfl ?_
              refine JV.iast (p2 := 116) (j := ((5 * (ix (m 0 0 4))) + 4)) rfl mm_6 (nI_addE (nI_mulE rfl hW.2.1.2.2.1) rfl) (by omega) (by decide) (mm_w6 (k := ((5 * (ix (m 0 0 4))) + 4)) rfl) rfl ?_
              refine JV.ald (p2 := 117) rfl rfl rfl ?_
              refine JV.stk (len := 2) (sem := (s_push (.int 112))) (p2 := 119) rfl rfl rfl ?_
              refine JV.invI (p2 := 122) rfl rfl rfl mm_M (Nat.le_of_ble_eq_true rfl) rfl (ev_X7_passes (by omega) (tw_nn (TW.r (TW.r (fw_X7_readsNumber (g := 4) (p2 := (((x_X7_passes (up3 (x_X7_readsNumber ((x_X7_readsDigit ((x_X7_readsDigit m (5 * (ix (m 0 0 4))) 4).1) ((5 * (ix (m 0 0 4))) + 1) 3).1) 4 0 1999).1 6 0 ((5 * (ix (m 0 0 4))) + 2) ((x_X7_readsNumber ((x_X7_readsDigit ((x_X7_readsDigit m (5 * (ix (m 0 0 4))) 4).1) ((5 * (ix (m 0 0 4))) + 1) 3).1) 4 0 1999).1 0 0 5)) 44).1 6 0 ((5 * (ix (m 0 0 4))) + 2)) + 1)) (p3 := 1999) rfl (fw_X7_passes (p1 := 44) (TW.r (fw_X7_readsNumber (g := 4) (p2 := 0) (p3 := 1999) rfl (fw_X7_readsDigit (a := ((5 * (ix (m 0 0 4))) + 1)) (p2 := 3) (fw_X7_readsDigit (a := (5 * (ix (m 0 0 4)))) (p2 := 4) hW)) (by omega) (by omega))) (by decide)) (by omega) (by omega))))) (TW.r (TW.r (fw_X7_readsNumber (g := 4) (p2 := (((x_X7_passes (up3 (x_X7_readsNumber ((x_X7_readsDigit ((x_X7_readsDigit m (5 * (ix (m 0 0 4))) 4).1) ((5 * (ix (m 0 0 4))) + 1) 3).1) 4 0 1999).1 6 0 ((5 * (ix (m 0 0 4))) + 2) ((x_X7_readsNumber ((x_X7_readsDigit ((x_X7_readsDigit m (5 * (ix (m 0 0 4))) 4).1) ((5 * (ix (m 0 0 4))) + 1) 3).1) 4 0 1999).1 0 0 5)) 44).1 6 0 ((5 * (ix (m 0 0 4))) + 2)) + 1)) (p3 := 1999) rfl (fw_X7_passes (p1 := 44) (TW.r (fw_X7_readsNumber (g := 4) (p2 := 0) (p3 := 1999) rfl (fw_X7_readsDigit (a := ((5 * (ix (m 0 0 4))) + 1)) (p2 := 3) (fw_X7_readsDigit (a := (5 * (ix (m 0 0 4)))) (p2 := 4) hW)) (by omega) (by omega))) (by decide)) (by omega) (by omega)))).2.1.2.1 rfl) ?_
              by_cases h122 : (x_X7_passes (up3 (up3 (x_X7_readsNumber ((x_X7_passes (up3 (x_X7_readsNumber ((x_X7_readsDigit ((x_X7_readsDigit m (5 * (ix (m 0 0 4))) 4).1) ((5 * (ix (m 0 0 4))) + 1) 3).1) 4 0 1999).1 6 0 ((5 * (ix (m 0 0 4))) + 2) ((x_X7_readsNumber ((x_X7_readsDigit ((x_X7_readsDigit m (5 * (ix (m 0 0 4))) 4).1) ((5 * (ix (m 0 0 4))) + 1) 3).1) 4 0 1999).1 0 0 5)) 44).1) 4 (((x_X7_passes (up3 (x_X7_readsNumber ((x_X7_readsDigit ((x_X7_readsDigit m (5 * (ix (m 0 0 4))) 4).1) ((5 * (ix (m 0 0 4))) + 1) 3).1) 4 0 1999).1 6 0 ((5 * (ix (m 0 0 4))) + 2) ((x_X7_readsNumber ((x_X7_readsDigit ((x_X7_readsDigit m (5 * (ix (m 0 0 4))) 4).1) ((5 * (ix (m 0 0 4))) + 1) 3).1) 4 0 1999).1 0 0 5)) 44).1 6 0 ((5 * (ix (m 0 0 4))) + 2)) + 1) 1999).1 6 0 ((5 * (ix (m 0 0 4))) + 3) ((x_X7_readsNumber ((x_X7_passes (up3 (x_X7_readsNumber ((x_X7_readsDigit ((x_X7_readsDigit m (5 * (ix (m 0 0 4))) 4).1) ((5 * (ix (m 0 0 4))) + 1) 3).1) 4 0 1999).1 6 0 ((5 * (ix (m 0 0 4))) + 2) ((x_X7_readsNumber ((x_X7_readsDigit ((x_X7_readsDigit m (5 * (ix (m 0 0 4))) 4).1) ((5 * (ix (m 0 0 4))) + 1) 3).1) 4 0 1999).1 0 0 5)) 44).1) 4 (((x_X7_passes (up3 (x_X7_readsNumber ((x_X7_readsDigit ((x_X7_readsDigit m (5 * (ix (m 0 0 4))) 4).1) ((5 * (ix (m 0 0 4))) + 1) 3).1) 4 0 1999).1 6 0 ((5 * (ix (m 0 0 4))) + 2) ((x_X7_readsNumber ((x_X7_readsDigit ((x_X7_readsDigit m (5 * (ix (m 0 0 4))) 4).1) ((5 * (ix (m 0 0 4))) + 1) 3).1) 4 0 1999).1 0 0 5)) 44).1 6 0 ((5 * (ix (m 0 0 4))) + 2)) + 1) 1999).1 0 0 5)) 6 0 ((5 * (ix (m 0 0 4))) + 4) 100) 112).2 = true
              · rw [if_pos h122] at hx
                refine JV.brF (p2 := 125) rfl rfl rfl (bI_t h122) ?_
                refine JV.ald (p2 := 126) rfl rfl rfl ?_
                refine JV.stk (len := 1) (sem := (s_push (.int 3))) (p2 := 127) rfl rfl rfl ?_
                refine JV.stk (len := 1) (sem := (s_push (.int 0))) (p2 := 128) rfl rfl rfl ?_
                refine JV.stk (len := 3) (sem := (s_push (.int 400))) (p2 := 131) rfl rfl rfl ?_
                refine JV.invI (p2 := 134) rfl rfl rfl mm_M (Nat.le_of_ble_eq_true rfl) rfl (ev_X7_readsNumber (g := 3) (by omega) rfl (fw_X7_passes (p1 := 112) (TW.r (TW.r (fw_X7_readsNumber (g := 4) (p2 := (((x_X7_passes (up3 (x_X7_readsNumber ((x_X7_readsDigit ((x_X7_readsDigit m (5 * (ix (m 0 0 4))) 4).1) ((5 * (ix (m 0 0 4))) + 1) 3).1) 4 0 1999).1 6 0 ((5 * (ix (m 0 0 4))) + 2) ((x_X7_readsNumber ((x_X7_readsDigit ((x_X7_readsDigit m (5 * (ix (m 0 0 4))) 4).1) ((5 * (ix (m 0 0 4))) + 1) 3).1) 4 0 1999).1 0 0 5)) 44).1 6 0 ((5 * (ix (m 0 0 4))) + 2)) + 1)) (p3 := 1999) rfl (fw_X7_passes (p1 := 44) (TW.r (fw_X7_readsNumber (g := 4) (p2 := 0) (p3 := 1999) rfl (fw_X7_readsDigit (a := ((5 * (ix (m 0 0 4))) + 1)) (p2 := 3) (fw_X7_readsDigit (a := (5 * (ix (m 0 0 4)))) (p2 := 4) hW)) (by omega) (by omega))) (by decide)) (by omega) (by omega)))) (by decide)) (by omega) (by omega) rfl) ?_
                by_cases h134 : (x_X7_readsNumber ((x_X7_passes (up3 (up3 (x_X7_readsNumber ((x_X7_passes (up3 (x_X7_readsNumber ((x_X7_readsDigit ((x_X7_readsDigit m (5 * (ix (m 0 0 4))) 4).1) ((5 * (ix (m 0 0 4))) + 1) 3).1) 4 0 1999).1 6 0 ((5 * (ix (m 0 0 4))) + 2) ((x_X7_readsNumber ((x_X7_readsDigit ((x_X7_readsDigit m (5 * (ix (m 0 0 4))) 4).1) ((5 * (ix (m 0 0 4))) + 1) 3).1) 4 0 1999).1 0 0 5)) 44).1) 4 (((x_X7_passes (up3 (x_X7_readsNumber ((x_X7_readsDigit ((x_X7_readsDigit m (5 * (ix (m 0 0 4))) 4).1) ((5 * (ix (m 0 0 4))) + 1) 3).1) 4 0 1999).1 6 0 ((5 * (ix (m 0 0 4))) + 2) ((x_X7_readsNumber ((x_X7_readsDigit ((x_X7_readsDigit m (5 * (ix (m 0 0 4))) 4).1) ((5 * (ix (m 0 0 4))) + 1) 3).1) 4 0 1999).1 0 0 5)) 44).1 6 0 ((5 * (ix (m 0 0 4))) + 2)) + 1) 1999).1 6 0 ((5 * (ix (m 0 0 4))) + 3) ((x_X7_readsNumber ((x_X7_passes (up3 (x_X7_readsNumber ((x_X7_readsDigit ((x_X7_readsDigit m (5 * (ix (m 0 0 4))) 4).1) ((5 * (ix (m 0 0 4))) + 1) 3).1) 4 0 1999).1 6 0 ((5 * (ix (m 0 0 4))) + 2) ((x_X7_readsNumber ((x_X7_readsDigit ((x_X7_readsDigit m (5 * (ix (m 0 0 4))) 4).1) ((5 * (ix (m 0 0 4))) + 1) 3).1) 4 0 1999).1 0 0 5)) 44).1) 4 (((x_X7_passes (up3 (x_X7_readsNumber ((x_X7_readsDigit ((x_X7_readsDigit m (5 * (ix (m 0 0 4))) 4).1) ((5 * (ix (m 0 0 4))) + 1) 3).1) 4 0 1999).1 6 0 ((5 * (ix (m 0 0 4))) + 2) ((x_X7_readsNumber ((x_X7_readsDigit ((x_X7_readsDigit m (5 * (ix (m 0 0 4))) 4).1) ((5 * (ix (m 0 0 4))) + 1) 3).1) 4 0 1999).1 0 0 5)) 44).1 6 0 ((5 * (ix (m 0 0 4))) + 2)) + 1) 1999).1 0 0 5)) 6 0 ((5 * (ix (m 0 0 4))) + 4) 100) 112).1) 3 0 400).2 = true
                · rw [if_pos h134] at hx
                  refine JV.brT rfl rfl (bI_t h134) ?_
                  refine JV.ald (p2 := 140) rfl rfl rfl ?_
                  refine JV.getf (p2 := 143) rfl mm_M rfl rfl ?_
                  refine JV.ild (p2 := 144) rfl rfl rfl ?_
                  refine JV.stk (len := 1) (sem := (s_push (.int 4))) (p2 := 145) rfl rfl rfl ?_
                  refine JV.stk (len := 1) (sem := s_iadd) (p2 := 146) rfl rfl rfl ?_
                  refine JV.ald (p2 := 147) rfl rfl rfl ?_
                  refine JV.getf (p2 := 150) rfl mm_M rfl rfl ?_
                  refine JV.iast (p2 := 151) (j := ((5 * (ix (m 0 0 4))) + 4)) rfl mm_6 (nI_addE (nI_mulE rfl hW.2.1.2.2.1) rfl) (by omega) (by decide) (mm_w6 (k := ((5 * (ix (m 0 0 4))) + 4)) rfl) rfl ?_
                  refine JV.ald (p2 := 152) rfl rfl rfl ?_
                  refine JV.stk (len := 2) (sem := (s_push (.int 59))) (p2 := 154) rfl rfl rfl ?_
                  refine JV.invI (p2 := 157) rfl rfl rfl mm_M (Nat.le_of_ble_eq_true rfl) rfl (ev_X7_passes (by omega) (tw_nn (TW.r (fw_X7_readsNumber (g := 3) (p2 := 0) (p3 := 400) rfl (fw_X7_passes (p1 := 112) (TW.r (TW.r (fw_X7_readsNumber (g := 4) (p2 := (((x_X7_passes (up3 (x_X7_readsNumber ((x_X7_readsDigit ((x_X7_readsDigit m (5 * (ix (m 0 0 4))) 4).1) ((5 * (ix (m 0 0 4))) + 1) 3).1) 4 0 1999).1 6 0 ((5 * (ix (m 0 0 4))) + 2) ((x_X7_readsNumber ((x_X7_readsDigit ((x_X7_readsDigit m (5 * (ix (m 0 0 4))) 4).1) ((5 * (ix (m 0 0 4))) + 1) 3).1) 4 0 1999).1 0 0 5)) 44).1 6 0 ((5 * (ix (m 0 0 4))) + 2)) + 1)) (p3 := 1999) rfl (fw_X7_passes (p1 := 44) (TW.r (fw_X7_readsNumber (g := 4) (p2 := 0) (p3 := 1999) rfl (fw_X7_readsDigit (a := ((5 * (ix (m 0 0 4))) + 1)) (p2 := 3) (fw_X7_readsDigit (a := (5 * (ix (m 0 0 4)))) (p2 := 4) hW)) (by omega) (by omega))) (by decide)) (by omega) (by omega)))) (by decide)) (by omega) (by omega)))) (TW.r (fw_X7_readsNumber (g := 3) (p2 := 0) (p3 := 400) rfl (fw_X7_passes (p1 := 112) (TW.r (TW.r (fw_X7_readsNumber (g := 4) (p2 := (((x_X7_passes (up3 (x_X7_readsNumber ((x_X7_readsDigit ((x_X7_readsDigit m (5 * (ix (m 0 0 4))) 4).1) ((5 * (ix (m 0 0 4))) + 1) 3).1) 4 0 1999).1 6 0 ((5 * (ix (m 0 0 4))) + 2) ((x_X7_readsNumber ((x_X7_readsDigit ((x_X7_readsDigit m (5 * (ix (m 0 0 4))) 4).1) ((5 * (ix (m 0 0 4))) + 1) 3).1) 4 0 1999).1 0 0 5)) 44).1 6 0 ((5 * (ix (m 0 0 4))) + 2)) + 1)) (p3 := 1999) rfl (fw_X7_passes (p1 := 44) (TW.r (fw_X7_readsNumber (g := 4) (p2 := 0) (p3 := 1999) rfl (fw_X7_readsDigit (a := ((5 * (ix (m 0 0 4))) + 1)) (p2 := 3) (fw_X7_readsDigit (a := (5 * (ix (m 0 0 4)))) (p2 := 4) hW)) (by omega) (by omega))) (by decide)) (by omega) (by omega)))) (by decide)) (by omega) (by omega))).2.1.2.1 rfl) ?_
                  refine JV.ist (p2 := 158) rfl rfl rfl ?_
                  refine JV.ald (p2 := 159) rfl rfl rfl ?_
                  refine JV.stk (len := 1) (sem := s_dup) (p2 := 160) rfl rfl rfl ?_
                  refine JV.getf (p2 := 163) rfl mm_M rfl rfl ?_
                  refine JV.ild (p2 := 164) rfl rfl rfl ?_
                  by_cases h164 : (x_X7_passes (up3 (x_X7_readsNumber ((x_X7_passes (up3 (up3 (x_X7_readsNumber ((x_X7_passes (up3 (x_X7_readsNumber ((x_X7_readsDigit ((x_X7_readsDigit m (5 * (ix (m 0 0 4))) 4).1) ((5 * (ix (m 0 0 4))) + 1) 3).1) 4 0 1999).1 6 0 ((5 * (ix (m 0 0 4))) + 2) ((x_X7_readsNumber ((x_X7_readsDigit ((x_X7_readsDigit m (5 * (ix (m 0 0 4))) 4).1) ((5 * (ix (m 0 0 4))) + 1) 3).1) 4 0 1999).1 0 0 5)) 44).1) 4 (((x_X7_passes (up3 (x_X7_readsNumber ((x_X7_readsDigit ((x_X7_readsDigit m (5 * (ix (m 0 0 4))) 4).1) ((5 * (ix (m 0 0 4))) + 1) 3).1) 4 0 1999).1 6 0 ((5 * (ix (m 0 0 4))) + 2) ((x_X7_readsNumber ((x_X7_readsDigit ((x_X7_readsDigit m (5 * (ix (m 0 0 4))) 4).1) ((5 * (ix (m 0 0 4))) + 1) 3).1) 4 0 1999).1 0 0 5)) 44).1 6 0 ((5 * (ix (m 0 0 4))) + 2)) + 1) 1999).1 6 0 ((5 * (ix (m 0 0 4))) + 3) ((x_X7_readsNumber ((x_X7_passes (up3 (x_X7_readsNumber ((x_X7_readsDigit ((x_X7_readsDigit m (5 * (ix (m 0 0 4))) 4).1) ((5 * (ix (m 0 0 4))) + 1) 3).1) 4 0 1999).1 6 0 ((5 * (ix (m 0 0 4))) + 2) ((x_X7_readsNumber ((x_X7_readsDigit ((x_X7_readsDigit m (5 * (ix (m 0 0 4))) 4).1) ((5 * (ix (m 0 0 4))) + 1) 3).1) 4 0 1999).1 0 0 5)) 44).1) 4 (((x_X7_passes (up3 (x_X7_readsNumber ((x_X7_readsDigit ((x_X7_readsDigit m (5 * (ix (m 0 0 4))) 4).1) ((5 * (ix (m 0 0 4))) + 1) 3).1) 4 0 1999).1 6 0 ((5 * (ix (m 0 0 4))) + 2) ((x_X7_readsNumber ((x_X7_readsDigit ((x_X7_readsDigit m (5 * (ix (m 0 0 4))) 4).1) ((5 * (ix (m 0 0 4))) + 1) 3).1) 4 0 1999).1 0 0 5)) 44).1 6 0 ((5 * (ix (m 0 0 4))) + 2)) + 1) 1999).1 0 0 5)) 6 0 ((5 * (ix (m 0 0 4))) + 4) 100) 112).1) 3 0 400).1 6 0 ((5 * (ix (m 0 0 4))) + 4) ((x_X7_readsNumber ((x_X7_passes (up3 (up3 (x_X7_readsNumber ((x_X7_passes (up3 (x_X7_readsNumber ((x_X7_readsDigit ((x_X7_readsDigit m (5 * (ix (m 0 0 4))) 4).1) ((5 * (ix (m 0 0 4))) + 1) 3).1) 4 0 1999).1 6 0 ((5 * (ix (m 0 0 4))) + 2) ((x_X7_readsNumber ((x_X7_readsDigit ((x_X7_readsDigit m (5 * (ix (m 0 0 4))) 4).1) ((5 * (ix (m 0 0 4))) + 1) 3).1) 4 0 1999).1 0 0 5)) 44).1) 4 (((x_X7_passes (up3 (x_X7_readsNumber ((x_X7_readsDigit ((x_X7_readsDigit m (5 * (ix (m 0 0 4))) 4).1) ((5 * (ix (m 0 0 4))) + 1) 3).1) 4 0 1999).1 6 0 ((5 * (ix (m 0 0 4))) + 2) ((x_X7_readsNumber ((x_X7_readsDigit ((x_X7_readsDigit m (5 * (ix (m 0 0 4))) 4).1) ((5 * (ix (m 0 0 4))) + 1) 3).1) 4 0 1999).1 0 0 5)) 44).1 6 0 ((5 * (ix (m 0 0 4))) + 2)) + 1) 1999).1 6 0 ((5 * (ix (m 0 0 4))) + 3) ((x_X7_readsNumber ((x_X7_passes (up3 (x_X7_readsNumber ((x_X7_readsDigit ((x_X7_readsDigit m (5 * (ix (m 0 0 4))) 4).1) ((5 * (ix (m 0 0 4))) + 1) 3).1) 4 0 1999).1 6 0 ((5 * (ix (m 0 0 4))) + 2) ((x_X7_readsNumber ((x_X7_readsDigit ((x_X7_readsDigit m (5 * (ix (m 0 0 4))) 4).1) ((5 * (ix (m 0 0 4))) + 1) 3).1) 4 0 1999).1 0 0 5)) 44).1) 4 (((x_X7_passes (up3 (x_X7_readsNumber ((x_X7_readsDigit ((x_X7_readsDigit m (5 * (ix (m 0 0 4))) 4).1) ((5 * (ix (m 0 0 4))) + 1) 3).1) 4 0 1999).1 6 0 ((5 * (ix (m 0 0 4))) + 2) ((x_X7_readsNumber ((x_X7_readsDigit ((x_X7_readsDigit m (5 * (ix (m 0 0 4))) 4).1) ((5 * (ix (m 0 0 4))) + 1) 3).1) 4 0 1999).1 0 0 5)) 44).1 6 0 ((5 * (ix (m 0 0 4))) + 2)) + 1) 1999).1 0 0 5)) 6 0 ((5 * (ix (m 0 0 4))) + 4) 100) 112).1) 3 0 400).1 0 0 5)) 59).2 = true
                  · rw [if_pos h164] at hx
                    refine JV.brF (p2 := 167) rfl rfl rfl (bI_t h164) ?_
                    refine JV.stk (len := 1) (sem := (s_push (.int 1))) (p2 := 168) rfl rfl rfl ?_
                    refine JV.goto rfl ?_
                    refine JV.stk (len := 1) (sem := s_iadd) (p2 := 173) rfl rfl rfl ?_
                    refine JV.puti (p2 := 176) rfl mm_M (Nat.le_of_ble_eq_true rfl) (mm_wM (k := 4) rfl) rfl ?_
                    refine JV.ild (p2 := 177) rfl rfl rfl ?_
                    subst hx
                    exact JV.ret rfl (fun _ => rfl) rfl rfl
                  · rw [if_neg h164] at hx
                    refine JV.brT rfl rfl (bI_f h164) ?_
                    refine JV.stk (len := 1) (sem := (s_push (.int 0))) (p2 := 172) rfl rfl rfl ?_
                    refine JV.stk (len := 1) (sem := s_iadd) (p2 := 173) rfl rfl rfl ?_
                    refine JV.puti (p2 := 176) rfl mm_M (Nat.le_of_ble_eq_true rfl) (mm_wM (k := 4) rfl) rfl ?_
                    refine JV.ild (p2 := 177) rfl rfl rfl ?_
                    subst hx
                    exact JV.ret rfl (fun _ => rfl) rfl rfl
                · rw [if_neg h134] at hx
                  refine JV.brF (p2 := 137) rfl rfl rfl (fun e => e (bI_f h134)) ?_
                  refine JV.stk (len := 1) (sem := (s_push (.int 0))) (p2 := 138) rfl rfl rfl ?_
                  subst hx
                  exact JV.ret rfl (fun _ => rfl) rfl rfl
              · rw [if_neg h122] at hx
                refine JV.brT rfl rfl (bI_f h122) ?_
                refine JV.ald (p2 := 152) rfl rfl rfl ?_
                refine JV.stk (len := 2) (sem := (s_push (.int 59))) (p2 := 154) rfl rfl rfl ?_
                refine JV.invI (p2 := 157) rfl rfl rfl mm_M (Nat.le_of_ble_eq_true rfl) rfl (ev_X7_passes (by omega) (tw_nn (fw_X7_passes (p1 := 112) (TW.r (TW.r (fw_X7_readsNumber (g := 4) (p2 := (((x_X7_passes (up3 (x_X7_readsNumber ((x_X7_readsDigit ((x_X7_readsDigit m (5 * (ix (m 0 0 4))) 4).1) ((5 * (ix (m 0 0 4))) + 1) 3).1) 4 0 1999).1 6 0 ((5 * (ix (m 0 0 4))) + 2) ((x_X7_readsNumber ((x_X7_readsDigit ((x_X7_readsDigit m (5 * (ix (m 0 0 4))) 4).1) ((5 * (ix (m 0 0 4))) + 1) 3).1) 4 0 1999).1 0 0 5)) 44).1 6 0 ((5 * (ix (m 0 0 4))) + 2)) + 1)) (p3 := 1999) rfl (fw_X7_passes (p1 := 44) (TW.r (fw_X7_readsNumber (g := 4) (p2 := 0) (p3 := 1999) rfl (fw_X7_readsDigit (a := ((5 * (ix (m 0 0 4))) + 1)) (p2 := 3) (fw_X7_readsDigit (a := (5 * (ix (m 0 0 4)))) (p2 := 4) hW)) (by omega) (by omega))) (by decide)) (by omega) (by omega)))) (by decide))) (fw_X7_passes (p1 := 112) (TW.r (TW.r (fw_X7_readsNumber (g := 4) (p2 := (((x_X7_passes (up3 (x_X7_readsNumber ((x_X7_readsDigit ((x_X7_readsDigit m (5 * (ix (m 0 0 4))) 4).1) ((5 * (ix (m 0 0 4))) + 1) 3).1) 4 0 1999).1 6 0 ((5 * (ix (m 0 0 4))) + 2) ((x_X7_readsNumber ((x_X7_readsDigit ((x_X7_readsDigit m (5 * (ix (m 0 0 4))) 4).1) ((5 * (ix (m 0 0 4))) + 1) 3).1) 4 0 1999).1 0 0 5)) 44).1 6 0 ((5 * (ix (m 0 0 4))) + 2)) + 1)) (p3 := 1999) rfl (fw_X7_passes (p1 := 44) (TW.r (fw_X7_readsNumber (g := 4) (p2 := 0) (p3 := 1999) rfl (fw_X7_readsDigit (a := ((5 * (ix (m 0 0 4))) + 1)) (p2 := 3) (fw_X7_readsDigit (a := (5 * (ix (m 0 0 4)))) (p2 := 4) hW)) (by omega) (by omega))) (by decide)) (by omega) (by omega)))) (by decide)).2.1.2.1 rfl) ?_
                refine JV.ist (p2 := 158) rfl rfl rfl ?_
                refine JV.ald (p2 := 159) rfl rfl rfl ?_
                refine JV.stk (len := 1) (sem := s_dup) (p2 := 160) rfl rfl rfl ?_
                refine JV.getf (p2 := 163) rfl mm_M rfl rfl ?_
                refine JV.ild (p2 := 164) rfl rfl rfl ?_
                by_cases h164 : (x_X7_passes ((x_X7_passes (up3 (up3 (x_X7_readsNumber ((x_X7_passes (up3 (x_X7_readsNumber ((x_X7_readsDigit ((x_X7_readsDigit m (5 * (ix (m 0 0 4))) 4).1) ((5 * (ix (m 0 0 4))) + 1) 3).1) 4 0 1999).1 6 0 ((5 * (ix (m 0 0 4))) + 2) ((x_X7_readsNumber ((x_X7_readsDigit ((x_X7_readsDigit m (5 * (ix (m 0 0 4))) 4).1) ((5 * (ix (m 0 0 4))) + 1) 3).1) 4 0 1999).1 0 0 5)) 44).1) 4 (((x_X7_passes (up3 (x_X7_readsNumber ((x_X7_readsDigit ((x_X7_readsDigit m (5 * (ix (m 0 0 4))) 4).1) ((5 * (ix (m 0 0 4))) + 1) 3).1) 4 0 1999).1 6 0 ((5 * (ix (m 0 0 4))) + 2) ((x_X7_readsNumber ((x_X7_readsDigit ((x_X7_readsDigit m (5 * (ix (m 0 0 4))) 4).1) ((5 * (ix (m 0 0 4))) + 1) 3).1) 4 0 1999).1 0 0 5)) 44).1 6 0 ((5 * (ix (m 0 0 4))) + 2)) + 1) 1999).1 6 0 ((5 * (ix (m 0 0 4))) + 3) ((x_X7_readsNumber ((x_X7_passes (up3 (x_X7_readsNumber ((x_X7_readsDigit ((x_X7_readsDigit m (5 * (ix (m 0 0 4))) 4).1) ((5 * (ix (m 0 0 4))) + 1) 3).1) 4 0 1999).1 6 0 ((5 * (ix (m 0 0 4))) + 2) ((x_X7_readsNumber ((x_X7_readsDigit ((x_X7_readsDigit m (5 * (ix (m 0 0 4))) 4).1) ((5 * (ix (m 0 0 4))) + 1) 3).1) 4 0 1999).1 0 0 5)) 44).1) 4 (((x_X7_passes (up3 (x_X7_readsNumber ((x_X7_readsDigit ((x_X7_readsDigit m (5 * (ix (m 0 0 4))) 4).1) ((5 * (ix (m 0 0 4))) + 1) 3).1) 4 0 1999).1 6 0 ((5 * (ix (m 0 0 4))) + 2) ((x_X7_readsNumber ((x_X7_readsDigit ((x_X7_readsDigit m (5 * (ix (m 0 0 4))) 4).1) ((5 * (ix (m 0 0 4))) + 1) 3).1) 4 0 1999).1 0 0 5)) 44).1 6 0 ((5 * (ix (m 0 0 4))) + 2)) + 1) 1999).1 0 0 5)) 6 0 ((5 * (ix (m 0 0 4))) + 4) 100) 112).1) 59).2 = true
                · rw [if_pos h164] at hx
                  refine JV.brF (p2 := 167) rfl rfl rfl (bI_t h164) ?_
                  refine JV.stk (len := 1) (sem := (s_push (.int 1))) (p2 := 168) rfl rfl rfl ?_
                  refine JV.goto rfl ?_
                  refine JV.stk (len := 1) (sem := s_iadd) (p2 := 173) rfl rfl rfl ?_
                  refine JV.puti (p2 := 176) rfl mm_M (Nat.le_of_ble_eq_true rfl) (mm_wM (k := 4) rfl) rfl ?_
                  refine JV.ild (p2 := 177) rfl rfl rfl ?_
                  subst hx
                  exact JV.ret rfl (fun _ => rfl) rfl rfl
                · rw [if_neg h164] at hx
                  refine JV.brT rfl rfl (bI_f h164) ?_
                  refine JV.stk (len := 1) (sem := (s_push (.int 0))) (p2 := 172) rfl rfl rfl ?_
                  refine JV.stk (len := 1) (sem := s_iadd) (p2 := 173) rfl rfl rfl ?_
                  refine JV.puti (p2 := 176) rfl mm_M (Nat.le_of_ble_eq_true rfl) (mm_wM (k := 4) rfl) rfl ?_
                  refine JV.ild (p2 := 177) rfl rfl rfl ?_
                  subst hx
                  exact JV.ret rfl (fun _ => rfl) rfl rfl
            · rw [if_neg h89] at hx
              refine JV.brF (p2 := 92) rfl rfl rfl (fun e => e (bI_f h89)) ?_
              refine JV.stk (len := 1) (sem := (s_push (.int 0))) (p2 := 93) rfl rfl rfl ?_
              subst hx
              exact JV.ret rfl (fun _ => rfl) rfl rfl
          · rw [if_neg h68] at hx
            refine JV.brT rfl rfl (bI_f h68) ?_
            refine JV.stk (len := 1) (sem := (s_push (.int 0))) (p2 := 93) rfl rfl rfl ?_
            subst hx
            exact JV.ret rfl (fun _ => rfl) rfl rfl
        · rw [if_neg h45] at hx
          refine JV.brF (p2 := 48) rfl rfl rfl (fun e => e (bI_f h45)) ?_
          refine JV.stk (len := 1) (sem := (s_push (.int 0))) (p2 := 49) rfl rfl rfl ?_
          subst hx
          exact JV.ret rfl (fun _ => rfl) rfl rfl
      · rw [if_neg h33] at hx
        refine JV.brT rfl rfl (bI_f h33) ?_
        refine JV.stk (len := 1) (sem := (s_push (.int 0))) (p2 := 49) rfl rfl rfl ?_
        subst hx
        exact JV.ret rfl (fun _ => rfl) rfl rfl
    · rw [if_neg h22] at hx
      refine JV.brT rfl rfl (bI_f h22) ?_
      refine JV.stk (len := 1) (sem := (s_push (.int 0))) (p2 := 49) rfl rfl rfl ?_
      subst hx
      exact JV.ret rfl (fun _ => rfl) rfl rfl
theorem fw_X7_readsPlane {m : Mem} {B : Nat} {m0 : Mem} (hW : TW B m0 m) (hB : B + 0 < 2147483648) : TW (B + 0) m0 (x_X7_readsPlane m).1 := by
  rw [x_X7_readsPlane_eq]
  unfold y_X7_readsPlane
  by_cases h13 : (m 0 0 4) = 12
  · rw [if_pos h13]
    try dsimp only
    exact TW.mono hW (by omega)
  · rw [if_neg h13]
    have b16 : ix (m 0 0 4) < 12 := vn_12 hW.2.1.2.2 h13
    by_cases h22 : (x_X7_readsDigit m (5 * (ix (m 0 0 4))) 4).2 = true
    · rw [if_pos h22]
      by_cases h33 : (x_X7_readsDigit ((x_X7_readsDigit m (5 * (ix (m 0 0 4))) 4).1) ((5 * (ix (m 0 0 4))) + 1) 3).2 = true
      · rw [if_pos h33]
        by_cases h45 : (x_X7_readsNumber ((x_X7_readsDigit ((x_X7_readsDigit m (5 * (ix (m 0 0 4))) 4).1) ((5 * (ix (m 0 0 4))) + 1) 3).1) 4 0 1999).2 = true
        · rw [if_pos h45]
          by_cases h68 : (x_X7_passes (up3 (x_X7_readsNumber ((x_X7_readsDigit ((x_X7_readsDigit m (5 * (ix (m 0 0 4))) 4).1) ((5 * (ix (m 0 0 4))) + 1) 3).1) 4 0 1999).1 6 0 ((5 * (ix (m 0 0 4))) + 2) ((x_X7_readsNumber ((x_X7_readsDigit ((x_X7_readsDigit m (5 * (ix (m 0 0 4))) 4).1) ((5 * (ix (m 0 0 4))) + 1) 3).1) 4 0 1999).1 0 0 5)) 44).2 = true
          · rw [if_pos h68]
            by_cases h89 : (x_X7_readsNumber ((x_X7_passes (up3 (x_X7_readsNumber ((x_X7_readsDigit ((x_X7_readsDigit m (5 * (ix (m 0 0 4))) 4).1) ((5 * (ix (m 0 0 4))) + 1) 3).1) 4 0 1999).1 6 0 ((5 * (ix (m 0 0 4))) + 2) ((x_X7_readsNumber ((x_X7_readsDigit ((x_X7_readsDigit m (5 * (ix (m 0 0 4))) 4).1) ((5 * (ix (m 0 0 4))) + 1) 3).1) 4 0 1999).1 0 0 5)) 44).1) 4 (((x_X7_passes (up3 (x_X7_readsNumber ((x_X7_readsDigit ((x_X7_readsDigit m (5 * (ix (m 0 0 4))) 4).1) ((5 * (ix (m 0 0 4))) + 1) 3).1) 4 0 1999).1 6 0 ((5 * (ix (m 0 0 4))) + 2) ((x_X7_readsNumber ((x_X7_readsDigit ((x_X7_readsDigit m (5 * (ix (m 0 0 4))) 4).1) ((5 * (ix (m 0 0 4))) + 1) 3).1) 4 0 1999).1 0 0 5)) 44).1 6 0 ((5 * (ix (m 0 0 4))) + 2)) + 1) 1999).2 = true
            · rw [if_pos h89]
              by_cases h122 : (x_X7_passes (up3 (up3 (x_X7_readsNumber ((x_X7_passes (up3 (x_X7_readsNumber ((x_X7_readsDigit ((x_X7_readsDigit m (5 * (ix (m 0 0 4))) 4).1) ((5 * (ix (m 0 0 4))) + 1) 3).1) 4 0 1999).1 6 0 ((5 * (ix (m 0 0 4))) + 2) ((x_X7_readsNumber ((x_X7_readsDigit ((x_X7_readsDigit m (5 * (ix (m 0 0 4))) 4).1) ((5 * (ix (m 0 0 4))) + 1) 3).1) 4 0 1999).1 0 0 5)) 44).1) 4 (((x_X7_passes (up3 (x_X7_readsNumber ((x_X7_readsDigit ((x_X7_readsDigit m (5 * (ix (m 0 0 4))) 4).1) ((5 * (ix (m 0 0 4))) + 1) 3).1) 4 0 1999).1 6 0 ((5 * (ix (m 0 0 4))) + 2) ((x_X7_readsNumber ((x_X7_readsDigit ((x_X7_readsDigit m (5 * (ix (m 0 0 4))) 4).1) ((5 * (ix (m 0 0 4))) + 1) 3).1) 4 0 1999).1 0 0 5)) 44).1 6 0 ((5 * (ix (m 0 0 4))) + 2)) + 1) 1999).1 6 0 ((5 * (ix (m 0 0 4))) + 3) ((x_X7_readsNumber ((x_X7_passes (up3 (x_X7_readsNumber ((x_X7_readsDigit ((x_X7_readsDigit m (5 * (ix (m 0 0 4))) 4).1) ((5 * (ix (m 0 0 4))) + 1) 3).1) 4 0 1999).1 6 0 ((5 * (ix (m 0 0 4))) + 2) ((x_X7_readsNumber ((x_X7_readsDigit ((x_X7_readsDigit m (5 * (ix (m 0 0 4))) 4).1) ((5 * (ix (m 0 0 4))) + 1) 3).1) 4 0 1999).1 0 0 5)) 44).1) 4 (((x_X7_passes (up3 (x_X7_readsNumber ((x_X7_readsDigit ((x_X7_readsDigit m (5 * (ix (m 0 0 4))) 4).1) ((5 * (ix (m 0 0 4))) + 1) 3).1) 4 0 1999).1 6 0 ((5 * (ix (m 0 0 4))) + 2) ((x_X7_readsNumber ((x_X7_readsDigit ((x_X7_readsDigit m (5 * (ix (m 0 0 4))) 4).1) ((5 * (ix (m 0 0 4))) + 1) 3).1) 4 0 1999).1 0 0 5)) 44).1 6 0 ((5 * (ix (m 0 0 4))) + 2)) + 1) 1999).1 0 0 5)) 6 0 ((5 * (ix (m 0 0 4))) + 4) 100) 112).2 = true
              · rw [if_pos h122]
                by_cases h134 : (x_X7_readsNumber ((x_X7_passes (up3 (up3 (x_X7_readsNumber ((x_X7_passes (up3 (x_X7_readsNumber ((x_X7_readsDigit ((x_X7_readsDigit m (5 * (ix (m 0 0 4))) 4).1) ((5 * (ix (m 0 0 4))) + 1) 3).1) 4 0 1999).1 6 0 ((5 * (ix (m 0 0 4))) + 2) ((x_X7_readsNumber ((x_X7_readsDigit ((x_X7_readsDigit m (5 * (ix (m 0 0 4))) 4).1) ((5 * (ix (m 0 0 4))) + 1) 3).1) 4 0 1999).1 0 0 5)) 44).1) 4 (((x_X7_passes (up3 (x_X7_readsNumber ((x_X7_readsDigit ((x_X7_readsDigit m (5 * (ix (m 0 0 4))) 4).1) ((5 * (ix (m 0 0 4))) + 1) 3).1) 4 0 1999).1 6 0 ((5 * (ix (m 0 0 4))) + 2) ((x_X7_readsNumber ((x_X7_readsDigit ((x_X7_readsDigit m (5 * (ix (m 0 0 4))) 4).1) ((5 * (ix (m 0 0 4))) + 1) 3).1) 4 0 1999).1 0 0 5)) 44).1 6 0 ((5 * (ix (m 0 0 4))) + 2)) + 1) 1999).1 6 0 ((5 * (ix (m 0 0 4))) + 3) ((x_X7_readsNumber ((x_X7_passes (up3 (x_X7_readsNumber ((x_X7_readsDigit ((x_X7_readsDigit m (5 * (ix (m 0 0 4))) 4).1) ((5 * (ix (m 0 0 4))) + 1) 3).1) 4 0 1999).1 6 0 ((5 * (ix (m 0 0 4))) + 2) ((x_X7_readsNumber ((x_X7_readsDigit ((x_X7_readsDigit m (5 * (ix (m 0 0 4))) 4).1) ((5 * (ix (m 0 0 4))) + 1) 3).1) 4 0 1999).1 0 0 5)) 44).1) 4 (((x_X7_passes (up3 (x_X7_readsNumber ((x_X7_readsDigit ((x_X7_readsDigit m (5 * (ix (m 0 0 4))) 4).1) ((5 * (ix (m 0 0 4))) + 1) 3).1) 4 0 1999).1 6 0 ((5 * (ix (m 0 0 4))) + 2) ((x_X7_readsNumber ((x_X7_readsDigit ((x_X7_readsDigit m (5 * (ix (m 0 0 4))) 4).1) ((5 * (ix (m 0 0 4))) + 1) 3).1) 4 0 1999).1 0 0 5)) 44).1 6 0 ((5 * (ix (m 0 0 4))) + 2)) + 1) 1999).1 0 0 5)) 6 0 ((5 * (ix (m 0 0 4))) + 4) 100) 112).1) 3 0 400).2 = true
                · rw [if_pos h134]
                  by_cases h164 : (x_X7_passes (up3 (x_X7_readsNumber ((x_X7_passes (up3 (up3 (x_X7_readsNumber ((x_X7_passes (up3 (x_X7_readsNumber ((x_X7_readsDigit ((x_X7_readsDigit m (5 * (ix (m 0 0 4))) 4).1) ((5 * (ix (m 0 0 4))) + 1) 3).1) 4 0 1999).1 6 0 ((5 * (ix (m 0 0 4))) + 2) ((x_X7_readsNumber ((x_X7_readsDigit ((x_X7_readsDigit m (5 * (ix (m 0 0 4))) 4).1) ((5 * (ix (m 0 0 4))) + 1) 3).1) 4 0 1999).1 0 0 5)) 44).1) 4 (((x_X7_passes (up3 (x_X7_readsNumber ((x_X7_readsDigit ((x_X7_readsDigit m (5 * (ix (m 0 0 4))) 4).1) ((5 * (ix (m 0 0 4))) + 1) 3).1) 4 0 1999).1 6 0 ((5 * (ix (m 0 0 4))) + 2) ((x_X7_readsNumber ((x_X7_readsDigit ((x_X7_readsDigit m (5 * (ix (m 0 0 4))) 4).1) ((5 * (ix (m 0 0 4))) + 1) 3).1) 4 0 1999).1 0 0 5)) 44).1 6 0 ((5 * (ix (m 0 0 4))) + 2)) + 1) 1999).1 6 0 ((5 * (ix (m 0 0 4))) + 3) ((x_X7_readsNumber ((x_X7_passes (up3 (x_X7_readsNumber ((x_X7_readsDigit ((x_X7_readsDigit m (5 * (ix (m 0 0 4))) 4).1) ((5 * (ix (m 0 0 4))) + 1) 3).1) 4 0 1999).1 6 0 ((5 * (ix (m 0 0 4))) + 2) ((x_X7_readsNumber ((x_X7_readsDigit ((x_X7_readsDigit m (5 * (ix (m 0 0 4))) 4).1) ((5 * (ix (m 0 0 4))) + 1) 3).1) 4 0 1999).1 0 0 5)) 44).1) 4 (((x_X7_passes (up3 (x_X7_readsNumber ((x_X7_readsDigit ((x_X7_readsDigit m (5 * (ix (m 0 0 4))) 4).1) ((5 * (ix (m 0 0 4))) + 1) 3).1) 4 0 1999).1 6 0 ((5 * (ix (m 0 0 4))) + 2) ((x_X7_readsNumber ((x_X7_readsDigit ((x_X7_readsDigit m (5 * (ix (m 0 0 4))) 4).1) ((5 * (ix (m 0 0 4))) + 1) 3).1) 4 0 1999).1 0 0 5)) 44).1 6 0 ((5 * (ix (m 0 0 4))) + 2)) + 1) 1999).1 0 0 5)) 6 0 ((5 * (ix (m 0 0 4))) + 4) 100) 112).1) 3 0 400).1 6 0 ((5 * (ix (m 0 0 4))) + 4) ((x_X7_readsNumber ((x_X7_passes (up3 (up3 (x_X7_readsNumber ((x_X7_passes (up3 (x_X7_readsNumber ((x_X7_readsDigit ((x_X7_readsDigit m (5 * (ix (m 0 0 4))) 4).1) ((5 * (ix (m 0 0 4))) + 1) 3).1) 4 0 1999).1 6 0 ((5 * (ix (m 0 0 4))) + 2) ((x_X7_readsNumber ((x_X7_readsDigit ((x_X7_readsDigit m (5 * (ix (m 0 0 4))) 4).1) ((5 * (ix (m 0 0 4))) + 1) 3).1) 4 0 1999).1 0 0 5)) 44).1) 4 (((x_X7_passes (up3 (x_X7_readsNumber ((x_X7_readsDigit ((x_X7_readsDigit m (5 * (ix (m 0 0 4))) 4).1) ((5 * (ix (m 0 0 4))) + 1) 3).1) 4 0 1999).1 6 0 ((5 * (ix (m 0 0 4))) + 2) ((x_X7_readsNumber ((x_X7_readsDigit ((x_X7_readsDigit m (5 * (ix (m 0 0 4))) 4).1) ((5 * (ix (m 0 0 4))) + 1) 3).1) 4 0 1999).1 0 0 5)) 44).1 6 0 ((5 * (ix (m 0 0 4))) + 2)) + 1) 1999).1 6 0 ((5 * (ix (m 0 0 4))) + 3) ((x_X7_readsNumber ((x_X7_passes (up3 (x_X7_readsNumber ((x_X7_readsDigit ((x_X7_readsDigit m (5 * (ix (m 0 0 4))) 4).1) ((5 * (ix (m 0 0 4))) + 1) 3).1) 4 0 1999).1 6 0 ((5 * (ix (m 0 0 4))) + 2) ((x_X7_readsNumber ((x_X7_readsDigit ((x_X7_readsDigit m (5 * (ix (m 0 0 4))) 4).1) ((5 * (ix (m 0 0 4))) + 1) 3).1) 4 0 1999).1 0 0 5)) 44).1) 4 (((x_X7_passes (up3 (x_X7_readsNumber ((x_X7_readsDigit ((x_X7_readsDigit m (5 * (ix (m 0 0 4))) 4).1) ((5 * (ix (m 0 0 4))) + 1) 3).1) 4 0 1999).1 6 0 ((5 * (ix (m 0 0 4))) + 2) ((x_X7_readsNumber ((x_X7_readsDigit ((x_X7_readsDigit m (5 * (ix (m 0 0 4))) 4).1) ((5 * (ix (m 0 0 4))) + 1) 3).1) 4 0 1999).1 0 0 5)) 44).1 6 0 ((5 * (ix (m 0 0 4))) + 2)) + 1) 1999).1 0 0 5)) 6 0 ((5 * (ix (m 0 0 4))) + 4) 100) 112).1) 3 0 400).1 0 0 5)) 59).2 = true
                  · rw [if_pos h164]
                    try dsimp only
                    exact TW.mono (TW.c (fw_X7_passes (p1 := 59) (TW.r (fw_X7_readsNumber (g := 3) (p2 := 0) (p3 := 400) rfl (fw_X7_passes (p1 := 112) (TW.r (TW.r (fw_X7_readsNumber (g := 4) (p2 := (((x_X7_passes (up3 (x_X7_readsNumber ((x_X7_readsDigit ((x_X7_readsDigit m (5 * (ix (m 0 0 4))) 4).1) ((5 * (ix (m 0 0 4))) + 1) 3).1) 4 0 1999).1 6 0 ((5 * (ix (m 0 0 4))) + 2) ((x_X7_readsNumber ((x_X7_readsDigit ((x_X7_readsDigit m (5 * (ix (m 0 0 4))) 4).1) ((5 * (ix (m 0 0 4))) + 1) 3).1) 4 0 1999).1 0 0 5)) 44).1 6 0 ((5 * (ix (m 0 0 4))) + 2)) + 1)) (p3 := 1999) rfl (fw_X7_passes (p1 := 44) (TW.r (fw_X7_readsNumber (g := 4) (p2 := 0) (p3 := 1999) rfl (fw_X7_readsDigit (a := ((5 * (ix (m 0 0 4))) + 1)) (p2 := 3) (fw_X7_readsDigit (a := (5 * (ix (m 0 0 4)))) (p2 := 4) hW)) (by omega) (by omega))) (by decide)) (by omega) (by omega)))) (by decide)) (by omega) (by omega))) (by decide)) (by first | exact rp_up (m := m) (by simp only [r4_readsNumber, r4_readsDigit, r4_passes, r4_r, r4_o, r4_p]) hW b16 | exact rp_0 (fw_X7_passes (p1 := 59) (TW.r (fw_X7_readsNumber (g := 3) (p2 := 0) (p3 := 400) rfl (fw_X7_passes (p1 := 112) (TW.r (TW.r (fw_X7_readsNumber (g := 4) (p2 := (((x_X7_passes (up3 (x_X7_readsNumber ((x_X7_readsDigit ((x_X7_readsDigit m (5 * (ix (m 0 0 4))) 4).1) ((5 * (ix (m 0 0 4))) + 1) 3).1) 4 0 1999).1 6 0 ((5 * (ix (m 0 0 4))) + 2) ((x_X7_readsNumber ((x_X7_readsDigit ((x_X7_readsDigit m (5 * (ix (m 0 0 4))) 4).1) ((5 * (ix (m 0 0 4))) + 1) 3).1) 4 0 1999).1 0 0 5)) 44).1 6 0 ((5 * (ix (m 0 0 4))) + 2)) + 1)) (p3 := 1999) rfl (fw_X7_passes (p1 := 44) (TW.r (fw_X7_readsNumber (g := 4) (p2 := 0) (p3 := 1999) rfl (fw_X7_readsDigit (a := ((5 * (ix (m 0 0 4))) + 1)) (p2 := 3) (fw_X7_readsDigit (a := (5 * (ix (m 0 0 4)))) (p2 := 4) hW)) (by omega) (by omega))) (by decide)) (by omega) (by omega)))) (by decide)) (by omega) (by omega))) (by decide)))) (by omega)
                  · rw [if_neg h164]
                    try dsimp only
                    exact TW.mono (TW.c (fw_X7_passes (p1 := 59) (TW.r (fw_X7_readsNumber (g := 3) (p2 := 0) (p3 := 400) rfl (fw_X7_passes (p1 := 112) (TW.r (TW.r (fw_X7_readsNumber (g := 4) (p2 := (((x_X7_passes (up3 (x_X7_readsNumber ((x_X7_readsDigit ((x_X7_readsDigit m (5 * (ix (m 0 0 4))) 4).1) ((5 * (ix (m 0 0 4))) + 1) 3).1) 4 0 1999).1 6 0 ((5 * (ix (m 0 0 4))) + 2) ((x_X7_readsNumber ((x_X7_readsDigit ((x_X7_readsDigit m (5 * (ix (m 0 0 4))) 4).1) ((5 * (ix (m 0 0 4))) + 1) 3).1) 4 0 1999).1 0 0 5)) 44).1 6 0 ((5 * (ix (m 0 0 4))) + 2)) + 1)) (p3 := 1999) rfl (fw_X7_passes (p1 := 44) (TW.r (fw_X7_readsNumber (g := 4) (p2 := 0) (p3 := 1999) rfl (fw_X7_readsDigit (a := ((5 * (ix (m 0 0 4))) + 1)) (p2 := 3) (fw_X7_readsDigit (a := (5 * (ix (m 0 0 4)))) (p2 := 4) hW)) (by omega) (by omega))) (by decide)) (by omega) (by omega)))) (by decide)) (by omega) (by omega))) (by decide)) (by first | exact rp_up (m := m) (by simp only [r4_readsNumber, r4_readsDigit, r4_passes, r4_r, r4_o, r4_p]) hW b16 | exact rp_0 (fw_X7_passes (p1 := 59) (TW.r (fw_X7_readsNumber (g := 3) (p2 := 0) (p3 := 400) rfl (fw_X7_passes (p1 := 112) (TW.r (TW.r (fw_X7_readsNumber (g := 4) (p2 := (((x_X7_passes (up3 (x_X7_readsNumber ((x_X7_readsDigit ((x_X7_readsDigit m (5 * (ix (m 0 0 4))) 4).1) ((5 * (ix (m 0 0 4))) + 1) 3).1) 4 0 1999).1 6 0 ((5 * (ix (m 0 0 4))) + 2) ((x_X7_readsNumber ((x_X7_readsDigit ((x_X7_readsDigit m (5 * (ix (m 0 0 4))) 4).1) ((5 * (ix (m 0 0 4))) + 1) 3).1) 4 0 1999).1 0 0 5)) 44).1 6 0 ((5 * (ix (m 0 0 4))) + 2)) + 1)) (p3 := 1999) rfl (fw_X7_passes (p1 := 44) (TW.r (fw_X7_readsNumber (g := 4) (p2 := 0) (p3 := 1999) rfl (fw_X7_readsDigit (a := ((5 * (ix (m 0 0 4))) + 1)) (p2 := 3) (fw_X7_readsDigit (a := (5 * (ix (m 0 0 4)))) (p2 := 4) hW)) (by omega) (by omega))) (by decide)) (by omega) (by omega)))) (by decide)) (by omega) (by omega))) (by decide)))) (by omega)
                · rw [if_neg h134]
                  try dsimp only
                  exact TW.mono (fw_X7_readsNumber (g := 3) (p2 := 0) (p3 := 400) rfl (fw_X7_passes (p1 := 112) (TW.r (TW.r (fw_X7_readsNumber (g := 4) (p2 := (((x_X7_passes (up3 (x_X7_readsNumber ((x_X7_readsDigit ((x_X7_readsDigit m (5 * (ix (m 0 0 4))) 4).1) ((5 * (ix (m 0 0 4))) + 1) 3).1) 4 0 1999).1 6 0 ((5 * (ix (m 0 0 4))) + 2) ((x_X7_readsNumber ((x_X7_readsDigit ((x_X7_readsDigit m (5 * (ix (m 0 0 4))) 4).1) ((5 * (ix (m 0 0 4))) + 1) 3).1) 4 0 1999).1 0 0 5)) 44).1 6 0 ((5 * (ix (m 0 0 4))) + 2)) + 1)) (p3 := 1999) rfl (fw_X7_passes (p1 := 44) (TW.r (fw_X7_readsNumber (g := 4) (p2 := 0) (p3 := 1999) rfl (fw_X7_readsDigit (a := ((5 * (ix (m 0 0 4))) + 1)) (p2 := 3) (fw_X7_readsDigit (a := (5 * (ix (m 0 0 4)))) (p2 := 4) hW)) (by omega) (by omega))) (by decide)) (by omega) (by omega)))) (by decide)) (by omega) (by omega)) (by omega)
              · rw [if_neg h122]
                by_cases h164 : (x_X7_passes ((x_X7_passes (up3 (up3 (x_X7_readsNumber ((x_X7_passes (up3 (x_X7_readsNumber ((x_X7_readsDigit ((x_X7_readsDigit m (5 * (ix (m 0 0 4))) 4).1) ((5 * (ix (m 0 0 4))) + 1) 3).1) 4 0 1999).1 6 0 ((5 * (ix (m 0 0 4))) + 2) ((x_X7_readsNumber ((x_X7_readsDigit ((x_X7_readsDigit m (5 * (ix (m 0 0 4))) 4).1) ((5 * (ix (m 0 0 4))) + 1) 3).1) 4 0 1999).1 0 0 5)) 44).1) 4 (((x_X7_passes (up3 (x_X7_readsNumber ((x_X7_readsDigit ((x_X7_readsDigit m (5 * (ix (m 0 0 4))) 4).1) ((5 * (ix (m 0 0 4))) + 1) 3).1) 4 0 1999).1 6 0 ((5 * (ix (m 0 0 4))) + 2) ((x_X7_readsNumber ((x_X7_readsDigit ((x_X7_readsDigit m (5 * (ix (m 0 0 4))) 4).1) ((5 * (ix (m 0 0 4))) + 1) 3).1) 4 0 1999).1 0 0 5)) 44).1 6 0 ((5 * (ix (m 0 0 4))) + 2)) + 1) 1999).1 6 0 ((5 * (ix (m 0 0 4))) + 3) ((x_X7_readsNumber ((x_X7_passes (up3 (x_X7_readsNumber ((x_X7_readsDigit ((x_X7_readsDigit m (5 * (ix (m 0 0 4))) 4).1) ((5 * (ix (m 0 0 4))) + 1) 3).1) 4 0 1999).1 6 0 ((5 * (ix (m 0 0 4))) + 2) ((x_X7_readsNumber ((x_X7_readsDigit ((x_X7_readsDigit m (5 * (ix (m 0 0 4))) 4).1) ((5 * (ix (m 0 0 4))) + 1) 3).1) 4 0 1999).1 0 0 5)) 44).1) 4 (((x_X7_passes (up3 (x_X7_readsNumber ((x_X7_readsDigit ((x_X7_readsDigit m (5 * (ix (m 0 0 4))) 4).1) ((5 * (ix (m 0 0 4))) + 1) 3).1) 4 0 1999).1 6 0 ((5 * (ix (m 0 0 4))) + 2) ((x_X7_readsNumber ((x_X7_readsDigit ((x_X7_readsDigit m (5 * (ix (m 0 0 4))) 4).1) ((5 * (ix (m 0 0 4))) + 1) 3).1) 4 0 1999).1 0 0 5)) 44).1 6 0 ((5 * (ix (m 0 0 4))) + 2)) + 1) 1999).1 0 0 5)) 6 0 ((5 * (ix (m 0 0 4))) + 4) 100) 112).1) 59).2 = true
                · rw [if_pos h164]
                  try dsimp only
                  exact TW.mono (TW.c (fw_X7_passes (p1 := 59) (fw_X7_passes (p1 := 112) (TW.r (TW.r (fw_X7_readsNumber (g := 4) (p2 := (((x_X7_passes (up3 (x_X7_readsNumber ((x_X7_readsDigit ((x_X7_readsDigit m (5 * (ix (m 0 0 4))) 4).1) ((5 * (ix (m 0 0 4))) + 1) 3).1) 4 0 1999).1 6 0 ((5 * (ix (m 0 0 4))) + 2) ((x_X7_readsNumber ((x_X7_readsDigit ((x_X7_readsDigit m (5 * (ix (m 0 0 4))) 4).1) ((5 * (ix (m 0 0 4))) + 1) 3).1) 4 0 1999).1 0 0 5)) 44).1 6 0 ((5 * (ix (m 0 0 4))) + 2)) + 1)) (p3 := 1999) rfl (fw_X7_passes (p1 := 44) (TW.r (fw_X7_readsNumber (g := 4) (p2 := 0) (p3 := 1999) rfl (fw_X7_readsDigit (a := ((5 * (ix (m 0 0 4))) + 1)) (p2 := 3) (fw_X7_readsDigit (a := (5 * (ix (m 0 0 4)))) (p2 := 4) hW)) (by omega) (by omega))) (by decide)) (by omega) (by omega)))) (by decide)) (by decide)) (by first | exact rp_up (m := m) (by simp only [r4_readsNumber, r4_readsDigit, r4_passes, r4_r, r4_o, r4_p]) hW b16 | exact rp_0 (fw_X7_passes (p1 := 59) (fw_X7_passes (p1 := 112) (TW.r (TW.r (fw_X7_readsNumber (g := 4) (p2 := (((x_X7_passes (up3 (x_X7_readsNumber ((x_X7_readsDigit ((x_X7_readsDigit m (5 * (ix (m 0 0 4))) 4).1) ((5 * (ix (m 0 0 4))) + 1) 3).1) 4 0 1999).1 6 0 ((5 * (ix (m 0 0 4))) + 2) ((x_X7_readsNumber ((x_X7_readsDigit ((x_X7_readsDigit m (5 * (ix (m 0 0 4))) 4).1) ((5 * (ix (m 0 0 4))) + 1) 3).1) 4 0 1999).1 0 0 5)) 44).1 6 0 ((5 * (ix (m 0 0 4))) + 2)) + 1)) (p3 := 1999) rfl (fw_X7_passes (p1 := 44) (TW.r (fw_X7_readsNumber (g := 4) (p2 := 0) (p3 := 1999) rfl (fw_X7_readsDigit (a := ((5 * (ix (m 0 0 4))) + 1)) (p2 := 3) (fw_X7_readsDigit (a := (5 * (ix (m 0 0 4)))) (p2 := 4) hW)) (by omega) (by omega))) (by decide)) (by omega) (by omega)))) (by decide)) (by decide)))) (by omega)
                · rw [if_neg h164]
                  try dsimp only
                  exact TW.mono (TW.c (fw_X7_passes (p1 := 59) (fw_X7_passes (p1 := 112) (TW.r (TW.r (fw_X7_readsNumber (g := 4) (p2 := (((x_X7_passes (up3 (x_X7_readsNumber ((x_X7_readsDigit ((x_X7_readsDigit m (5 * (ix (m 0 0 4))) 4).1) ((5 * (ix (m 0 0 4))) + 1) 3).1) 4 0 1999).1 6 0 ((5 * (ix (m 0 0 4))) + 2) ((x_X7_readsNumber ((x_X7_readsDigit ((x_X7_readsDigit m (5 * (ix (m 0 0 4))) 4).1) ((5 * (ix (m 0 0 4))) + 1) 3).1) 4 0 1999).1 0 0 5)) 44).1 6 0 ((5 * (ix (m 0 0 4))) + 2)) + 1)) (p3 := 1999) rfl (fw_X7_passes (p1 := 44) (TW.r (fw_X7_readsNumber (g := 4) (p2 := 0) (p3 := 1999) rfl (fw_X7_readsDigit (a := ((5 * (ix (m 0 0 4))) + 1)) (p2 := 3) (fw_X7_readsDigit (a := (5 * (ix (m 0 0 4)))) (p2 := 4) hW)) (by omega) (by omega))) (by decide)) (by omega) (by omega)))) (by decide)) (by decide)) (by first | exact rp_up (m := m) (by simp only [r4_readsNumber, r4_readsDigit, r4_passes, r4_r, r4_o, r4_p]) hW b16 | exact rp_0 (fw_X7_passes (p1 := 59) (fw_X7_passes (p1 := 112) (TW.r (TW.r (fw_X7_readsNumber (g := 4) (p2 := (((x_X7_passes (up3 (x_X7_readsNumber ((x_X7_readsDigit ((x_X7_readsDigit m (5 * (ix (m 0 0 4))) 4).1) ((5 * (ix (m 0 0 4))) + 1) 3).1) 4 0 1999).1 6 0 ((5 * (ix (m 0 0 4))) + 2) ((x_X7_readsNumber ((x_X7_readsDigit ((x_X7_readsDigit m (5 * (ix (m 0 0 4))) 4).1) ((5 * (ix (m 0 0 4))) + 1) 3).1) 4 0 1999).1 0 0 5)) 44).1 6 0 ((5 * (ix (m 0 0 4))) + 2)) + 1)) (p3 := 1999) rfl (fw_X7_passes (p1 := 44) (TW.r (fw_X7_readsNumber (g := 4) (p2 := 0) (p3 := 1999) rfl (fw_X7_readsDigit (a := ((5 * (ix (m 0 0 4))) + 1)) (p2 := 3) (fw_X7_readsDigit (a := (5 * (ix (m 0 0 4)))) (p2 := 4) hW)) (by omega) (by omega))) (by decide)) (by omega) (by omega)))) (by decide)) (by decide)))) (by omega)
            · rw [if_neg h89]
              try dsimp only
              exact TW.mono (fw_X7_readsNumber (g := 4) (p2 := (((x_X7_passes (up3 (x_X7_readsNumber ((x_X7_readsDigit ((x_X7_readsDigit m (5 * (ix (m 0 0 4))) 4).1) ((5 * (ix (m 0 0 4))) + 1) 3).1) 4 0 1999).1 6 0 ((5 * (ix (m 0 0 4))) + 2) ((x_X7_readsNumber ((x_X7_readsDigit ((x_X7_readsDigit m (5 * (ix (m 0 0 4))) 4).1) ((5 * (ix (m 0 0 4))) + 1) 3).1) 4 0 1999).1 0 0 5)) 44).1 6 0 ((5 * (ix (m 0 0 4))) + 2)) + 1)) (p3 := 1999) rfl (fw_X7_passes (p1 := 44) (TW.r (fw_X7_readsNumber (g := 4) (p2 := 0) (p3 := 1999) rfl (fw_X7_readsDigit (a := ((5 * (ix (m 0 0 4))) + 1)) (p2 := 3) (fw_X7_readsDigit (a := (5 * (ix (m 0 0 4)))) (p2 := 4) hW)) (by omega) (by omega))) (by decide)) (by omega) (by omega)) (by omega)
          · rw [if_neg h68]
            try dsimp only
            exact TW.mono (fw_X7_passes (p1 := 44) (TW.r (fw_X7_readsNumber (g := 4) (p2 := 0) (p3 := 1999) rfl (fw_X7_readsDigit (a := ((5 * (ix (m 0 0 4))) + 1)) (p2 := 3) (fw_X7_readsDigit (a := (5 * (ix (m 0 0 4)))) (p2 := 4) hW)) (by omega) (by omega))) (by decide)) (by omega)
        · rw [if_neg h45]
          try dsimp only
          exact TW.mono (fw_X7_readsNumber (g := 4) (p2 := 0) (p3 := 1999) rfl (fw_X7_readsDigit (a := ((5 * (ix (m 0 0 4))) + 1)) (p2 := 3) (fw_X7_readsDigit (a := (5 * (ix (m 0 0 4)))) (p2 := 4) hW)) (by omega) (by omega)) (by omega)
      · rw [if_neg h33]
        try dsimp only
        exact TW.mono (fw_X7_readsDigit (a := ((5 * (ix (m 0 0 4))) + 1)) (p2 := 3) (fw_X7_readsDigit (a := (5 * (ix (m 0 0 4)))) (p2 := 4) hW)) (by omega)
    · rw [if_neg h22]
      try dsimp only
      exact TW.mono (fw_X7_readsDigit (a := (5 * (ix (m 0 0 4)))) (p2 := 4) hW) (by omega)
theorem rp_cnt {m : Mem} {B : Nat} {m0 : Mem} (hW : TW B m0 m) (hB : B + 0 < 2147483648) : (x_X7_readsPlane m).2 = true → (x_X7_readsPlane m).1 0 0 4 = m 0 0 4 + 1 := by
  rw [x_X7_readsPlane_eq]
  unfold y_X7_readsPlane
  by_cases h13 : (m 0 0 4) = 12
  · rw [if_pos h13]
    first | exact fun h => absurd h Bool.false_ne_true | (intro h; exfalso; dsimp only at h; contradiction) | (intro h; dsimp only; rw [up3_self]; simp only [r4_readsNumber, r4_readsDigit, r4_passes, r4_r, r4_o, r4_p])
  · rw [if_neg h13]
    have b16 : ix (m 0 0 4) < 12 := vn_12 hW.2.1.2.2 h13
    by_cases h22 : (x_X7_readsDigit m (5 * (ix (m 0 0 4))) 4).2 = true
    · rw [if_pos h22]
      by_cases h33 : (x_X7_readsDigit ((x_X7_readsDigit m (5 * (ix (m 0 0 4))) 4).1) ((5 * (ix (m 0 0 4))) + 1) 3).2 = true
      · rw [if_pos h33]
        by_cases h45 : (x_X7_readsNumber ((x_X7_readsDigit ((x_X7_readsDigit m (5 * (ix (m 0 0 4))) 4).1) ((5 * (ix (m 0 0 4))) + 1) 3).1) 4 0 1999).2 = true
        · rw [if_pos h45]
          by_cases h68 : (x_X7_passes (up3 (x_X7_readsNumber ((x_X7_readsDigit ((x_X7_readsDigit m (5 * (ix (m 0 0 4))) 4).1) ((5 * (ix (m 0 0 4))) + 1) 3).1) 4 0 1999).1 6 0 ((5 * (ix (m 0 0 4))) + 2) ((x_X7_readsNumber ((x_X7_readsDigit ((x_X7_readsDigit m (5 * (ix (m 0 0 4))) 4).1) ((5 * (ix (m 0 0 4))) + 1) 3).1) 4 0 1999).1 0 0 5)) 44).2 = true
          · rw [if_pos h68]
            by_cases h89 : (x_X7_readsNumber ((x_X7_passes (up3 (x_X7_readsNumber ((x_X7_readsDigit ((x_X7_readsDigit m (5 * (ix (m 0 0 4))) 4).1) ((5 * (ix (m 0 0 4))) + 1) 3).1) 4 0 1999).1 6 0 ((5 * (ix (m 0 0 4))) + 2) ((x_X7_readsNumber ((x_X7_readsDigit ((x_X7_readsDigit m (5 * (ix (m 0 0 4))) 4).1) ((5 * (ix (m 0 0 4))) + 1) 3).1) 4 0 1999).1 0 0 5)) 44).1) 4 (((x_X7_passes (up3 (x_X7_readsNumber ((x_X7_readsDigit ((x_X7_readsDigit m (5 * (ix (m 0 0 4))) 4).1) ((5 * (ix (m 0 0 4))) + 1) 3).1) 4 0 1999).1 6 0 ((5 * (ix (m 0 0 4))) + 2) ((x_X7_readsNumber ((x_X7_readsDigit ((x_X7_readsDigit m (5 * (ix (m 0 0 4))) 4).1) ((5 * (ix (m 0 0 4))) + 1) 3).1) 4 0 1999).1 0 0 5)) 44).1 6 0 ((5 * (ix (m 0 0 4))) + 2)) + 1) 1999).2 = true
            · rw [if_pos h89]
              by_cases h122 : (x_X7_passes (up3 (up3 (x_X7_readsNumber ((x_X7_passes (up3 (x_X7_readsNumber ((x_X7_readsDigit ((x_X7_readsDigit m (5 * (ix (m 0 0 4))) 4).1) ((5 * (ix (m 0 0 4))) + 1) 3).1) 4 0 1999).1 6 0 ((5 * (ix (m 0 0 4))) + 2) ((x_X7_readsNumber ((x_X7_readsDigit ((x_X7_readsDigit m (5 * (ix (m 0 0 4))) 4).1) ((5 * (ix (m 0 0 4))) + 1) 3).1) 4 0 1999).1 0 0 5)) 44).1) 4 (((x_X7_passes (up3 (x_X7_readsNumber ((x_X7_readsDigit ((x_X7_readsDigit m (5 * (ix (m 0 0 4))) 4).1) ((5 * (ix (m 0 0 4))) + 1) 3).1) 4 0 1999).1 6 0 ((5 * (ix (m 0 0 4))) + 2) ((x_X7_readsNumber ((x_X7_readsDigit ((x_X7_readsDigit m (5 * (ix (m 0 0 4))) 4).1) ((5 * (ix (m 0 0 4))) + 1) 3).1) 4 0 1999).1 0 0 5)) 44).1 6 0 ((5 * (ix (m 0 0 4))) + 2)) + 1) 1999).1 6 0 ((5 * (ix (m 0 0 4))) + 3) ((x_X7_readsNumber ((x_X7_passes (up3 (x_X7_readsNumber ((x_X7_readsDigit ((x_X7_readsDigit m (5 * (ix (m 0 0 4))) 4).1) ((5 * (ix (m 0 0 4))) + 1) 3).1) 4 0 1999).1 6 0 ((5 * (ix (m 0 0 4))) + 2) ((x_X7_readsNumber ((x_X7_readsDigit ((x_X7_readsDigit m (5 * (ix (m 0 0 4))) 4).1) ((5 * (ix (m 0 0 4))) + 1) 3).1) 4 0 1999).1 0 0 5)) 44).1) 4 (((x_X7_passes (up3 (x_X7_readsNumber ((x_X7_readsDigit ((x_X7_readsDigit m (5 * (ix (m 0 0 4))) 4).1) ((5 * (ix (m 0 0 4))) + 1) 3).1) 4 0 1999).1 6 0 ((5 * (ix (m 0 0 4))) + 2) ((x_X7_readsNumber ((x_X7_readsDigit ((x_X7_readsDigit m (5 * (ix (m 0 0 4))) 4).1) ((5 * (ix (m 0 0 4))) + 1) 3).1) 4 0 1999).1 0 0 5)) 44).1 6 0 ((5 * (ix (m 0 0 4))) + 2)) + 1) 1999).1 0 0 5)) 6 0 ((5 * (ix (m 0 0 4))) + 4) 100) 112).2 = true
              · rw [if_pos h122]
                by_cases h134 : (x_X7_readsNumber ((x_X7_passes (up3 (up3 (x_X7_readsNumber ((x_X7_passes (up3 (x_X7_readsNumber ((x_X7_readsDigit ((x_X7_readsDigit m (5 * (ix (m 0 0 4))) 4).1) ((5 * (ix (m 0 0 4))) + 1) 3).1) 4 0 1999).1 6 0 ((5 * (ix (m 0 0 4))) + 2) ((x_X7_readsNumber ((x_X7_readsDigit ((x_X7_readsDigit m (5 * (ix (m 0 0 4))) 4).1) ((5 * (ix (m 0 0 4))) + 1) 3).1) 4 0 1999).1 0 0 5)) 44).1) 4 (((x_X7_passes (up3 (x_X7_readsNumber ((x_X7_readsDigit ((x_X7_readsDigit m (5 * (ix (m 0 0 4))) 4).1) ((5 * (ix (m 0 0 4))) + 1) 3).1) 4 0 1999).1 6 0 ((5 * (ix (m 0 0 4))) + 2) ((x_X7_readsNumber ((x_X7_readsDigit ((x_X7_readsDigit m (5 * (ix (m 0 0 4))) 4).1) ((5 * (ix (m 0 0 4))) + 1) 3).1) 4 0 1999).1 0 0 5)) 44).1 6 0 ((5 * (ix (m 0 0 4))) + 2)) + 1) 1999).1 6 0 ((5 * (ix (m 0 0 4))) + 3) ((x_X7_readsNumber ((x_X7_passes (up3 (x_X7_readsNumber ((x_X7_readsDigit ((x_X7_readsDigit m (5 * (ix (m 0 0 4))) 4).1) ((5 * (ix (m 0 0 4))) + 1) 3).1) 4 0 1999).1 6 0 ((5 * (ix (m 0 0 4))) + 2) ((x_X7_readsNumber ((x_X7_readsDigit ((x_X7_readsDigit m (5 * (ix (m 0 0 4))) 4).1) ((5 * (ix (m 0 0 4))) + 1) 3).1) 4 0 1999).1 0 0 5)) 44).1) 4 (((x_X7_passes (up3 (x_X7_readsNumber ((x_X7_readsDigit ((x_X7_readsDigit m (5 * (ix (m 0 0 4))) 4).1) ((5 * (ix (m 0 0 4))) + 1) 3).1) 4 0 1999).1 6 0 ((5 * (ix (m 0 0 4))) + 2) ((x_X7_readsNumber ((x_X7_readsDigit ((x_X7_readsDigit m (5 * (ix (m 0 0 4))) 4).1) ((5 * (ix (m 0 0 4))) + 1) 3).1) 4 0 1999).1 0 0 5)) 44).1 6 0 ((5 * (ix (m 0 0 4))) + 2)) + 1) 1999).1 0 0 5)) 6 0 ((5 * (ix (m 0 0 4))) + 4) 100) 112).1) 3 0 400).2 = true
                · rw [if_pos h134]
                  by_cases h164 : (x_X7_passes (up3 (x_X7_readsNumber ((x_X7_passes (up3 (up3 (x_X7_readsNumber ((x_X7_passes (up3 (x_X7_readsNumber ((x_X7_readsDigit ((x_X7_readsDigit m (5 * (ix (m 0 0 4))) 4).1) ((5 * (ix (m 0 0 4))) + 1) 3).1) 4 0 1999).1 6 0 ((5 * (ix (m 0 0 4))) + 2) ((x_X7_readsNumber ((x_X7_readsDigit ((x_X7_readsDigit m (5 * (ix (m 0 0 4))) 4).1) ((5 * (ix (m 0 0 4))) + 1) 3).1) 4 0 1999).1 0 0 5)) 44).1) 4 (((x_X7_passes (up3 (x_X7_readsNumber ((x_X7_readsDigit ((x_X7_readsDigit m (5 * (ix (m 0 0 4))) 4).1) ((5 * (ix (m 0 0 4))) + 1) 3).1) 4 0 1999).1 6 0 ((5 * (ix (m 0 0 4))) + 2) ((x_X7_readsNumber ((x_X7_readsDigit ((x_X7_readsDigit m (5 * (ix (m 0 0 4))) 4).1) ((5 * (ix (m 0 0 4))) + 1) 3).1) 4 0 1999).1 0 0 5)) 44).1 6 0 ((5 * (ix (m 0 0 4))) + 2)) + 1) 1999).1 6 0 ((5 * (ix (m 0 0 4))) + 3) ((x_X7_readsNumber ((x_X7_passes (up3 (x_X7_readsNumber ((x_X7_readsDigit ((x_X7_readsDigit m (5 * (ix (m 0 0 4))) 4).1) ((5 * (ix (m 0 0 4))) + 1) 3).1) 4 0 1999).1 6 0 ((5 * (ix (m 0 0 4))) + 2) ((x_X7_readsNumber ((x_X7_readsDigit ((x_X7_readsDigit m (5 * (ix (m 0 0 4))) 4).1) ((5 * (ix (m 0 0 4))) + 1) 3).1) 4 0 1999).1 0 0 5)) 44).1) 4 (((x_X7_passes (up3 (x_X7_readsNumber ((x_X7_readsDigit ((x_X7_readsDigit m (5 * (ix (m 0 0 4))) 4).1) ((5 * (ix (m 0 0 4))) + 1) 3).1) 4 0 1999).1 6 0 ((5 * (ix (m 0 0 4))) + 2) ((x_X7_readsNumber ((x_X7_readsDigit ((x_X7_readsDigit m (5 * (ix (m 0 0 4))) 4).1) ((5 * (ix (m 0 0 4))) + 1) 3).1) 4 0 1999).1 0 0 5)) 44).1 6 0 ((5 * (ix (m 0 0 4))) + 2)) + 1) 1999).1 0 0 5)) 6 0 ((5 * (ix (m 0 0 4))) + 4) 100) 112).1) 3 0 400).1 6 0 ((5 * (ix (m 0 0 4))) + 4) ((x_X7_readsNumber ((x_X7_passes (up3 (up3 (x_X7_readsNumber ((x_X7_passes (up3 (x_X7_readsNumber ((x_X7_readsDigit ((x_X7_readsDigit m (5 * (ix (m 0 0 4))) 4).1) ((5 * (ix (m 0 0 4))) + 1) 3).1) 4 0 1999).1 6 0 ((5 * (ix (m 0 0 4))) + 2) ((x_X7_readsNumber ((x_X7_readsDigit ((x_X7_readsDigit m (5 * (ix (m 0 0 4))) 4).1) ((5 * (ix (m 0 0 4))) + 1) 3).1) 4 0 1999).1 0 0 5)) 44).1) 4 (((x_X7_passes (up3 (x_X7_readsNumber ((x_X7_readsDigit ((x_X7_readsDigit m (5 * (ix (m 0 0 4))) 4).1) ((5 * (ix (m 0 0 4))) + 1) 3).1) 4 0 1999).1 6 0 ((5 * (ix (m 0 0 4))) + 2) ((x_X7_readsNumber ((x_X7_readsDigit ((x_X7_readsDigit m (5 * (ix (m 0 0 4))) 4).1) ((5 * (ix (m 0 0 4))) + 1) 3).1) 4 0 1999).1 0 0 5)) 44).1 6 0 ((5 * (ix (m 0 0 4))) + 2)) + 1) 1999).1 6 0 ((5 * (ix (m 0 0 4))) + 3) ((x_X7_readsNumber ((x_X7_passes (up3 (x_X7_readsNumber ((x_X7_readsDigit ((x_X7_readsDigit m (5 * (ix (m 0 0 4))) 4).1) ((5 * (ix (m 0 0 4))) + 1) 3).1) 4 0 1999).1 6 0 ((5 * (ix (m 0 0 4))) + 2) ((x_X7_readsNumber ((x_X7_readsDigit ((x_X7_readsDigit m (5 * (ix (m 0 0 4))) 4).1) ((5 * (ix (m 0 0 4))) + 1) 3).1) 4 0 1999).1 0 0 5)) 44).1) 4 (((x_X7_passes (up3 (x_X7_readsNumber ((x_X7_readsDigit ((x_X7_readsDigit m (5 * (ix (m 0 0 4))) 4).1) ((5 * (ix (m 0 0 4))) + 1) 3).1) 4 0 1999).1 6 0 ((5 * (ix (m 0 0 4))) + 2) ((x_X7_readsNumber ((x_X7_readsDigit ((x_X7_readsDigit m (5 * (ix (m 0 0 4))) 4).1) ((5 * (ix (m 0 0 4))) + 1) 3).1) 4 0 1999).1 0 0 5)) 44).1 6 0 ((5 * (ix (m 0 0 4))) + 2)) + 1) 1999).1 0 0 5)) 6 0 ((5 * (ix (m 0 0 4))) + 4) 100) 112).1) 3 0 400).1 0 0 5)) 59).2 = true
                  · rw [if_pos h164]
                    first | exact fun h => absurd h Bool.false_ne_true | (intro h; exfalso; dsimp only at h; contradiction) | (intro h; dsimp only; rw [up3_self]; simp only [r4_readsNumber, r4_readsDigit, r4_passes, r4_r, r4_o, r4_p])
                  · rw [if_neg h164]
                    first | exact fun h => absurd h Bool.false_ne_true | (intro h; exfalso; dsimp only at h; contradiction) | (intro h; dsimp only; rw [up3_self]; simp only [r4_readsNumber, r4_readsDigit, r4_passes, r4_r, r4_o, r4_p])
                · rw [if_neg h134]
                  first | exact fun h => absurd h Bool.false_ne_true | (intro h; exfalso; dsimp only at h; contradiction) | (intro h; dsimp only; rw [up3_self]; simp only [r4_readsNumber, r4_readsDigit, r4_passes, r4_r, r4_o, r4_p])
              · rw [if_neg h122]
                by_cases h164 : (x_X7_passes ((x_X7_passes (up3 (up3 (x_X7_readsNumber ((x_X7_passes (up3 (x_X7_readsNumber ((x_X7_readsDigit ((x_X7_readsDigit m (5 * (ix (m 0 0 4))) 4).1) ((5 * (ix (m 0 0 4))) + 1) 3).1) 4 0 1999).1 6 0 ((5 * (ix (m 0 0 4))) + 2) ((x_X7_readsNumber ((x_X7_readsDigit ((x_X7_readsDigit m (5 * (ix (m 0 0 4))) 4).1) ((5 * (ix (m 0 0 4))) + 1) 3).1) 4 0 1999).1 0 0 5)) 44).1) 4 (((x_X7_passes (up3 (x_X7_readsNumber ((x_X7_readsDigit ((x_X7_readsDigit m (5 * (ix (m 0 0 4))) 4).1) ((5 * (ix (m 0 0 4))) + 1) 3).1) 4 0 1999).1 6 0 ((5 * (ix (m 0 0 4))) + 2) ((x_X7_readsNumber ((x_X7_readsDigit ((x_X7_readsDigit m (5 * (ix (m 0 0 4))) 4).1) ((5 * (ix (m 0 0 4))) + 1) 3).1) 4 0 1999).1 0 0 5)) 44).1 6 0 ((5 * (ix (m 0 0 4))) + 2)) + 1) 1999).1 6 0 ((5 * (ix (m 0 0 4))) + 3) ((x_X7_readsNumber ((x_X7_passes (up3 (x_X7_readsNumber ((x_X7_readsDigit ((x_X7_readsDigit m (5 * (ix (m 0 0 4))) 4).1) ((5 * (ix (m 0 0 4))) + 1) 3).1) 4 0 1999).1 6 0 ((5 * (ix (m 0 0 4))) + 2) ((x_X7_readsNumber ((x_X7_readsDigit ((x_X7_readsDigit m (5 * (ix (m 0 0 4))) 4).1) ((5 * (ix (m 0 0 4))) + 1) 3).1) 4 0 1999).1 0 0 5)) 44).1) 4 (((x_X7_passes (up3 (x_X7_readsNumber ((x_X7_readsDigit ((x_X7_readsDigit m (5 * (ix (m 0 0 4))) 4).1) ((5 * (ix (m 0 0 4))) + 1) 3).1) 4 0 1999).1 6 0 ((5 * (ix (m 0 0 4))) + 2) ((x_X7_readsNumber ((x_X7_readsDigit ((x_X7_readsDigit m (5 * (ix (m 0 0 4))) 4).1) ((5 * (ix (m 0 0 4))) + 1) 3).1) 4 0 1999).1 0 0 5)) 44).1 6 0 ((5 * (ix (m 0 0 4))) + 2)) + 1) 1999).1 0 0 5)) 6 0 ((5 * (ix (m 0 0 4))) + 4) 100) 112).1) 59).2 = true
                · rw [if_pos h164]
                  first | exact fun h => absurd h Bool.false_ne_true | (intro h; exfalso; dsimp only at h; contradiction) | (intro h; dsimp only; rw [up3_self]; simp only [r4_readsNumber, r4_readsDigit, r4_passes, r4_r, r4_o, r4_p])
                · rw [if_neg h164]
                  first | exact fun h => absurd h Bool.false_ne_true | (intro h; exfalso; dsimp only at h; contradiction) | (intro h; dsimp only; rw [up3_self]; simp only [r4_readsNumber, r4_readsDigit, r4_passes, r4_r, r4_o, r4_p])
            · rw [if_neg h89]
              first | exact fun h => absurd h Bool.false_ne_true | (intro h; exfalso; dsimp only at h; contradiction) | (intro h; dsimp only; rw [up3_self]; simp only [r4_readsNumber, r4_readsDigit, r4_passes, r4_r, r4_o, r4_p])
          · rw [if_neg h68]
            first | exact fun h => absurd h Bool.false_ne_true | (intro h; exfalso; dsimp only at h; contradiction) | (intro h; dsimp only; rw [up3_self]; simp only [r4_readsNumber, r4_readsDigit, r4_passes, r4_r, r4_o, r4_p])
        · rw [if_neg h45]
          first | exact fun h => absurd h Bool.false_ne_true | (intro h; exfalso; dsimp only at h; contradiction) | (intro h; dsimp only; rw [up3_self]; simp only [r4_readsNumber, r4_readsDigit, r4_passes, r4_r, r4_o, r4_p])
      · rw [if_neg h33]
        first | exact fun h => absurd h Bool.false_ne_true | (intro h; exfalso; dsimp only at h; contradiction) | (intro h; dsimp only; rw [up3_self]; simp only [r4_readsNumber, r4_readsDigit, r4_passes, r4_r, r4_o, r4_p])
    · rw [if_neg h22]
      first | exact fun h => absurd h Bool.false_ne_true | (intro h; exfalso; dsimp only at h; contradiction) | (intro h; dsimp only; rw [up3_self]; simp only [r4_readsNumber, r4_readsDigit, r4_passes, r4_r, r4_o, r4_p])
theorem rt_up {m : Mem} {B : Nat} {m0 : Mem} (hW : TW B m0 m) {j : Nat} (e : m 0 0 4 = nI j) : (x_X7_readsPlane m).2 = false ∨ ¬ (x_X7_readsPlane m).1 0 0 3 < (x_X7_readsPlane m).1 0 0 2 ∨ (x_X7_readsPlane m).1 0 0 4 = nI (j + 1) := by
  by_cases h : (x_X7_readsPlane m).2 = true
  · exact Or.inr (Or.inr (by rw [rp_cnt (B := 0) (m0 := m0) (TW.mono0 hW) (by decide) h, e, nI_1]))
  · exact Or.inl (Bool.eq_false_iff.mpr h)
noncomputable def bd_X7_readsText_12 (j : Nat) (m : Mem) (c1 : Bool) : Mem × Bool := (if c1 = true then (if (m 0 0 3) < (m 0 0 2) then ((x_X7_readsPlane m).1, (x_X7_readsPlane m).2) else (m, c1)) else (m, c1))
noncomputable def ly_X7_readsText_12 (N : Nat) (m : Mem) (c1 : Bool) : Mem × Bool := itr (fun jz s => bd_X7_readsText_12 jz s.1 s.2) N 0 (m, c1)
theorem le_X7_readsText_12 : ∃ f, f = ly_X7_readsText_12 := ⟨ly_X7_readsText_12, rfl⟩
noncomputable def lf_X7_readsText_12 := Classical.choose le_X7_readsText_12
theorem lf_X7_readsText_12_eq : lf_X7_readsText_12 = ly_X7_readsText_12 := Classical.choose_spec le_X7_readsText_12
theorem fb_X7_readsText_12 {B : Nat} {m0 : Mem} (hB : B + 0 < 2147483648) {j : Nat} {m : Mem} {c1 : Bool} (hjN : j < 13) (hW : TW (B + 0 * j) m0 m) (hn : c1 = false ∨ ¬ m 0 0 3 < m 0 0 2 ∨ m 0 0 4 = nI j) : (TW (B + 0 * (j + 1)) m0 (bd_X7_readsText_12 j m c1).1) ∧ ((bd_X7_readsText_12 j m c1).2 = false ∨ ¬ (bd_X7_readsText_12 j m c1).1 0 0 3 < (bd_X7_readsText_12 j m c1).1 0 0 2 ∨ (bd_X7_readsText_12 j m c1).1 0 0 4 = nI (j + 1)) := by
  unfold bd_X7_readsText_12
  by_cases h13 : c1 = true
  · rw [if_pos h13]
    by_cases h24 : (m 0 0 3) < (m 0 0 2)
    · rw [if_pos h24]
      try dsimp only
      exact ⟨(TW.mono (fw_X7_readsPlane hW (by omega)) (by omega)), (by first | exact Or.inl (Bool.eq_false_iff.mpr h13) | exact Or.inr (Or.inl h24) | (rcases hn with e | e | e; (rw [e] at h13; cases h13); exact absurd h24 e; exact rt_up hW e))⟩
    · rw [if_neg h24]
      try dsimp only
      exact ⟨(TW.mono hW (by omega)), (by first | exact Or.inl (Bool.eq_false_iff.mpr h13) | exact Or.inr (Or.inl h24) | (rcases hn with e | e | e; (rw [e] at h13; cases h13); exact absurd h24 e; exact rt_up hW e))⟩
  · rw [if_neg h13]
    try dsimp only
    exact ⟨(TW.mono hW (by omega)), (by first | exact Or.inl (Bool.eq_false_iff.mpr h13) | exact Or.inr (Or.inl h24) | (rcases hn with e | e | e; (rw [e] at h13; cases h13); exact absurd h24 e; exact rt_up hW e))⟩
theorem fl_X7_readsText_12 {B : Nat} {m0 : Mem} (hB : B + 0 < 2147483648) {m : Mem} {c1 : Bool} {N : Nat} (hNl : N = 13) (hW : TW (B + 0 * 0) m0 m) (hn : c1 = false ∨ ¬ m 0 0 3 < m 0 0 2 ∨ m 0 0 4 = nI 0) : (TW (B + 0 * N) m0 (lf_X7_readsText_12 N m c1).1) ∧ ((lf_X7_readsText_12 N m c1).2 = false ∨ ¬ (lf_X7_readsText_12 N m c1).1 0 0 3 < (lf_X7_readsText_12 N m c1).1 0 0 2 ∨ (lf_X7_readsText_12 N m c1).1 0 0 4 = nI N) := by
  rw [lf_X7_readsText_12_eq]
  unfold ly_X7_readsText_12
  exact itr_inv (n := N) (s := (m, c1)) (P := fun jz s => (TW (B + 0 * jz) m0 s.1) ∧ (s.2 = false ∨ ¬ s.1 0 0 3 < s.1 0 0 2 ∨ s.1 0 0 4 = nI jz)) (fun jz s => bd_X7_readsText_12 jz s.1 s.2) (fun jz s hj hs => fb_X7_readsText_12 (B := B) (m0 := m0) hB (j := jz) (m := s.1) (c1 := s.2) (by omega) hs.1 hs.2) ⟨hW, hn⟩
theorem lp_X7_readsText_12 {d n c s b : Nat} {M : JM} {o : JO} {hf : JH} {B : Nat} {m0 : Mem} (hd : 3 ≤ d) (hB : B + 0 < 2147483648) : ∀ (k j : Nat) (m : Mem) (c1 : Bool), j + k = 13 → (TW (B + 0 * j) m0 m) → (c1 = false ∨ ¬ m 0 0 3 < m 0 0 2 ∨ m 0 0 4 = nI j) → JV (Ev mtab mcode d) jcX7_readsText (35, [(0, .ref b), (1, .int (bI ((itr (fun jz s => bd_X7_readsText_12 jz s.1 s.2) k j (m, c1)).2)))], []) (n, c, s, mm b ((itr (fun jz s => bd_X7_readsText_12 jz s.1 s.2) k j (m, c1)).1) M) o hf → JV (Ev mtab mcode d) jcX7_readsText (12, [(0, .ref b), (1, .int (bI c1))], []) (n, c, s, mm b m M) o hf := by
  intro k
  induction k with
  | zero =>
    intro j m c1 hj hW hn hc
    have hjN : j = 13 := by omega
    obtain ⟨s1, hx⟩ : ∃ s1, bd_X7_readsText_12 j m c1 = s1 := ⟨_, rfl⟩
    unfold bd_X7_readsText_12 at hx
    refine JV.ild (p2 := 13) rfl rfl rfl ?_
    by_cases h13 : c1 = true
    · rw [if_pos h13] at hx
      refine JV.brF (p2 := 16) rfl rfl rfl (bI_t h13) ?_
      refine JV.ald (p2 := 17) rfl rfl rfl ?_
      refine JV.getf (p2 := 20) rfl mm_M rfl rfl ?_
      refine JV.ald (p2 := 21) rfl rfl rfl ?_
      refine JV.getf (p2 := 24) rfl mm_M rfl rfl ?_
      by_cases h24 : (m 0 0 3) < (m 0 0 2)
      · rw [if_pos h24] at hx
        refine JV.brF (p2 := 27) rfl rfl rfl (Int32.not_le.mpr h24) ?_
        rcases hn with e | e | e
        · rw [e] at h13; cases h13
        · exact absurd h24 e
        · exact absurd (e.trans (congrArg nI hjN)) (vn_n13 hW.2.1.2.2)
      · rw [if_neg h24] at hx
        refine JV.brT rfl rfl (Int32.not_lt.mp h24) ?_
        exact JV.keep [0, 1] rfl hc
    · rw [if_neg h13] at hx
      refine JV.brT rfl rfl (bI_f h13) ?_
      exact JV.keep [0, 1] rfl hc
  | succ k ih =>
    intro j m c1 hj hW hn hc
    obtain ⟨s1, hx⟩ : ∃ s1, bd_X7_readsText_12 j m c1 = s1 := ⟨_, rfl⟩
    have hc2 : JV (Ev mtab mcode d) jcX7_readsText (35, [(0, .ref b), (1, .int (bI ((itr (fun jz s => bd_X7_readsText_12 jz s.1 s.2) k (j + 1) s1).2)))], []) (n, c, s, mm b ((itr (fun jz s => bd_X7_readsText_12 jz s.1 s.2) k (j + 1) s1).1) M) o hf := by
      subst hx
      exact hc
    clear hc
    have iv := fb_X7_readsText_12 (B := B) (m0 := m0) hB (j := j) (m := m) (c1 := c1) (by omega) hW hn
    rw [hx] at iv
    unfold bd_X7_readsText_12 at hx
    refine JV.ild (p2 := 13) rfl rfl rfl ?_
    by_cases h13 : c1 = true
    · rw [if_pos h13] at hx
      refine JV.brF (p2 := 16) rfl rfl rfl (bI_t h13) ?_
      refine JV.ald (p2 := 17) rfl rfl rfl ?_
      refine JV.getf (p2 := 20) rfl mm_M rfl rfl ?_
      refine JV.ald (p2 := 21) rfl rfl rfl ?_
      refine JV.getf (p2 := 24) rfl mm_M rfl rfl ?_
      by_cases h24 : (m 0 0 3) < (m 0 0 2)
      · rw [if_pos h24] at hx
        refine JV.brF (p2 := 27) rfl rfl rfl (Int32.not_le.mpr h24) ?_
        refine JV.ald (p2 := 28) rfl rfl rfl ?_
        refine JV.invI (p2 := 31) rfl rfl rfl mm_M (Nat.le_of_ble_eq_true rfl) rfl (ev_X7_readsPlane (by omega) hW (by omega) rfl) ?_
        refine JV.ist (p2 := 32) rfl rfl rfl ?_
        refine JV.goto rfl ?_
        subst hx
        exact ih (j + 1) _ _ (by omega) iv.1 iv.2 hc2
      · rw [if_neg h24] at hx
        refine JV.brT rfl rfl (Int32.not_lt.mp h24) ?_
        subst hx
        have fx : ∀ jz, (fun jz s => bd_X7_readsText_12 jz s.1 s.2) jz (m, c1) = (m, c1) := fun jz => by
          show bd_X7_readsText_12 jz m c1 = _
          unfold bd_X7_readsText_12
          rw [if_pos h13, if_neg h24]
        rw [itr_fix (f := (fun jz s => bd_X7_readsText_12 jz s.1 s.2)) (s := (m, c1)) fx] at hc2
        exact JV.keep [0, 1] rfl hc2
    · rw [if_neg h13] at hx
      refine JV.brT rfl rfl (bI_f h13) ?_
      subst hx
      have fx : ∀ jz, (fun jz s => bd_X7_readsText_12 jz s.1 s.2) jz (m, c1) = (m, c1) := fun jz => by
        show bd_X7_readsText_12 jz m c1 = _
        unfold bd_X7_readsText_12
        rw [if_neg h13]
      rw [itr_fix (f := (fun jz s => bd_X7_readsText_12 jz s.1 s.2)) (s := (m, c1)) fx] at hc2
      exact JV.keep [0, 1] rfl hc2
theorem lq_X7_readsText_12 {d n c s b : Nat} {M : JM} {o : JO} {hf : JH} {B : Nat} {m0 : Mem} {m : Mem} {c1 : Bool} (hd : 3 ≤ d) (hB : B + 0 < 2147483648) (hW : TW (B + 0 * 0) m0 m) (hn : c1 = false ∨ ¬ m 0 0 3 < m 0 0 2 ∨ m 0 0 4 = nI 0) (hc : JV (Ev mtab mcode d) jcX7_readsText (35, [(0, .ref b), (1, .int (bI ((lf_X7_readsText_12 13 m c1).2)))], []) (n, c, s, mm b ((lf_X7_readsText_12 13 m c1).1) M) o hf) : JV (Ev mtab mcode d) jcX7_readsText (12, [(0, .ref b), (1, .int (bI c1))], []) (n, c, s, mm b m M) o hf := by
  rw [lf_X7_readsText_12_eq] at hc
  unfold ly_X7_readsText_12 at hc
  exact lp_X7_readsText_12 (B := B) (m0 := m0) hd hB 13 0 m c1 (by omega) hW hn hc
noncomputable def y_X7_readsText (m : Mem) : Mem × Bool := (((lf_X7_readsText_12 13 (up3 (up3 m 0 0 3 0) 0 0 4 0) true).1), ((lf_X7_readsText_12 13 (up3 (up3 m 0 0 3 0) 0 0 4 0) true).2))
theorem xe_X7_readsText : ∃ f, f = y_X7_readsText := ⟨y_X7_readsText, rfl⟩
noncomputable def x_X7_readsText := Classical.choose xe_X7_readsText
theorem x_X7_readsText_eq : x_X7_readsText = y_X7_readsText := Classical.choose_spec xe_X7_readsText
theorem ev_X7_readsText {d n c s b : Nat} {m : Mem} {M : JM} {B : Nat} {m0 : Mem} {res : Mem × Bool} (hd : 4 ≤ d) (hW : TU B m0 m) (hB : B + 0 < 2147483648)  (hx : x_X7_readsText m = res) : Ev mtab mcode d 153 [.ref b] (n, c, s, mm b m M) (.inl (some (.int (bI res.2)))) (n, c, s, mm b res.1 M) := by
  obtain ⟨d, rfl⟩ : ∃ e, d = e + 1 := ⟨d - 1, by omega⟩
  rw [x_X7_readsText_eq] at hx
  unfold y_X7_readsText at hx
  refine jv_mk (m := mX7_readsText) (cd := jcX7_readsText) rfl rfl (Nat.le_of_ble_eq_true rfl) (bI_or _) ?_
  refine JV.ald (p2 := 1) rfl rfl rfl ?_
  refine JV.stk (len := 1) (sem := (s_push (.int 0))) (p2 := 2) rfl rfl rfl ?_
  refine JV.puti (p2 := 5) rfl mm_M (Nat.le_of_ble_eq_true rfl) (mm_wM (k := 3) rfl) rfl ?_
  refine JV.ald (p2 := 6) rfl rfl rfl ?_
  refine JV.stk (len := 1) (sem := (s_push (.int 0))) (p2 := 7) rfl rfl rfl ?_
  refine JV.puti (p2 := 10) rfl mm_M (Nat.le_of_ble_eq_true rfl) (mm_wM (k := 4) rfl) rfl ?_
  refine JV.stk (len := 1) (sem := (s_push (.int 1))) (p2 := 11) rfl rfl rfl ?_
  refine JV.ist (p2 := 12) rfl rfl rfl ?_
  refine lq_X7_readsText_12 (m := (up3 (up3 m 0 0 3 0) 0 0 4 0)) (c1 := true) (B := B) (m0 := m0) (by omega) (by omega) (TW.mono (TU.i hW) (by omega)) (Or.inr (Or.inr rfl)) ?_
  refine JV.ild (p2 := 36) rfl rfl rfl ?_
  subst hx
  exact JV.ret rfl (fun _ => rfl) rfl rfl
theorem fw_X7_readsText {m : Mem} {B : Nat} {m0 : Mem} (hW : TU B m0 m) (hB : B + 0 < 2147483648) : TW (B + 0) m0 (x_X7_readsText m).1 := by
  rw [x_X7_readsText_eq]
  unfold y_X7_readsText
  try dsimp only
  exact TW.mono (TW.mono (fl_X7_readsText_12 (m := (up3 (up3 m 0 0 3 0) 0 0 4 0)) (c1 := true) (B := B) (m0 := m0) (by omega) (N := 13) rfl (TW.mono (TU.i hW) (by omega)) (Or.inr (Or.inr rfl))).1 (B' := B + 0) (by omega)) (by omega)
