/-! pushbacks on both sides, and a minute as a whole -/
def RX (B : Nat) (m : Mem) : Prop := ∃ μ, RB B m μ
def QQ (B : Nat) (m m' : Mem) : Prop := RX B m ∧ RX B m' ∧ GX m ∧ GX m' ∧ TWN m m'
section PSH
variable {m m' n n' s : Mem} {w v d c : Int32} {B j p q k t i K f : Nat}
theorem RX.iN (h : RX B m) : IN m := h.elim fun _ z => z.1.2
theorem RX.vN (h : RX B m) : VN B (m 4 0 0) := h.elim fun _ z => z.2
theorem RX.mono {B' : Nat} (h : RX B m) (hb : B ≤ B') : RX B' m := h.elim fun μ z => ⟨μ, z.1, z.2.1, Nat.le_trans z.2.2 hb⟩
theorem RX.bp (h : RX B m) (hB : B + 1 < 2 ^ 31) (hq : q < ix (m 0 0 2)) (h0 : x_X1_reason m q = 0) : RX (B + 1) (x_X1_beginPush m q) := h.elim fun _ z => ⟨_, bp_ok z hB hq h0⟩
theorem QQ.mono {B' : Nat} (h : QQ B m m') (hb : B ≤ B') : QQ B' m m' := ⟨h.1.mono hb, h.2.1.mono hb, h.2.2⟩
/-- no neighbor is pushed back -/
theorem re_nb (hI : IN m) (hr : x_X1_reason m q = 0) (hj : j < ix (m 0 0 0)) (e : m 3 q 6 = nI j) : (∀ i, i + 1 = j → ¬ PF m i) ∧ (j + 1 < ix (m 0 0 0) → ¬ PF m (j + 1)) := by
  have bs := hI.ns.2
  rw [x_X1_reason_eq] at hr
  unfold y_X1_reason at hr
  rw [e, if_neg (show ¬ nI j = -1 from nI_n1 (by omega))] at hr
  have a : ¬ x_X1_isPushedFrom m (nI j - 1) = true := fun z => by
    rw [if_pos z] at hr
    repeat' split at hr
    all_goals exact absurd hr (by decide)
  have b : ¬ x_X1_isPushedFrom m (nI j + 1) = true := fun z => by
    rw [if_neg a, if_pos z] at hr
    repeat' split at hr
    all_goals exact absurd hr (by decide)
  exact ⟨fun i hi g => a ((pf_dn hI hj).mpr ⟨i, hi, g⟩), fun l g => b ((pf_up hI hj).mpr ⟨l, g⟩)⟩
theorem bp_twc {a b c a' b' c' : Int32} (h : TWN n n') (hq : q < ix (n 0 0 2)) (ht : t < 3) : TWN (x_X2_put (up3 (x_X5_take (up3 (up3 n 3 q 5 4) 3 q 7 (((up3 n 3 q 5 4) 0 0 3) - ((up3 n 3 q 5 4) 3 q 3))) t (nI q) 5) 2 t 3 (((x_X5_take (up3 (up3 n 3 q 5 4) 3 q 7 (((up3 n 3 q 5 4) 0 0 3) - ((up3 n 3 q 5 4) 3 q 3))) t (nI q) 5) 2 t 3) + 1)) a b c) (x_X2_put (up3 (x_X5_take (up3 (up3 n' 3 q 5 4) 3 q 7 (((up3 n' 3 q 5 4) 0 0 3) - ((up3 n' 3 q 5 4) 3 q 3))) (2 - t) (nI q) 5) 2 (2 - t) 3 (((x_X5_take (up3 (up3 n' 3 q 5 4) 3 q 7 (((up3 n' 3 q 5 4) 0 0 3) - ((up3 n' 3 q 5 4) 3 q 3))) (2 - t) (nI q) 5) 2 (2 - t) 3) + 1)) a' b' c') := by
  have T1 := h.wA (p := q) (k := 5) (v := 4) (by decide)
  rw [T1.c (z := 3) (by decide), T1.a (p := q) (k := 3) (by rw [up3_ne (by omega)]; exact hq) (by decide) (by decide)]
  generalize up3 n 3 q 5 4 0 0 3 - up3 n 3 q 5 4 3 q 3 = d
  have T2 := (T1.wA (p := q) (k := 7) (v := d) (by decide)).take ht (w := nI q) (v := 5)
  rw [T2.u ht (k := 3) (by decide)]
  exact (T2.wT ht).put
theorem bp_twb (h : TWN m m') (hD : DS m) (hI : IN m) (hq : q < ix (m 0 0 2)) : TWN (x_X1_beginPush m q) (x_X1_beginPush m' q) := by
  rw [x_X1_beginPush_eq]
  unfold y_X1_beginPush
  rw [h.a hq (k := 1) (by decide) (by decide), h.a hq (k := 5) (by decide) (by decide), ft_tw h hD]
  rcases ft_spec (m := m) (w := m 3 q 1) hI.nt.2 with ⟨e, -⟩ | ⟨t, ht, e, -⟩
  · rw [e, show tv3 (-1) = -1 from rfl, if_pos rfl, if_pos rfl]
    exact h
  · rw [h.nt] at ht
    rw [e, tv_j ht, if_neg (nI_n1 (by omega)), if_neg (nI_n1 (by omega)), ix_nI (by omega), ix_nI (by omega)]
    by_cases g : m 3 q 5 = 2
    · rw [if_pos g, if_pos g]
      exact bp_twc (h.buses hq) (by rw [bu_f (by decide)]; exact hq) ht
    · rw [if_neg g, if_neg g]
      exact bp_twc h hq ht
theorem bp_gxc {a b c : Int32} (h : GX n) (hI : IN n) (hq : q < ix (n 0 0 2)) (h0 : n 3 q 5 = 1 ∨ n 3 q 5 = 2) (h2 : ¬ n 0 0 3 < n 3 q 3) (hn : ∀ j, j < ix (n 0 0 0) → n 3 q 6 = nI j → (∀ i, i + 1 = j → ¬ PF n i) ∧ (j + 1 < ix (n 0 0 0) → ¬ PF n (j + 1))) (ht : t < ix (n 0 0 1)) (f1 : n 2 t 1 = -1) (f2 : ¬ n 2 t 0 < n 3 q 1) : GX (x_X2_put (up3 (x_X5_take (up3 (up3 n 3 q 5 4) 3 q 7 (((up3 n 3 q 5 4) 0 0 3) - ((up3 n 3 q 5 4) 3 q 3))) t (nI q) 5) 2 t 3 (((x_X5_take (up3 (up3 n 3 q 5 4) 3 q 7 (((up3 n 3 q 5 4) 0 0 3) - ((up3 n 3 q 5 4) 3 q 3))) t (nI q) 5) 2 t 3) + 1)) a b c) := by
  have bt := hI.nt.2
  have ba := hI.na.2
  rw [up3_ne (m := n) (f' := 0) (k' := 3) (by omega), up3_ne (m := n) (f' := 3) (i' := q) (k' := 3) (by omega)]
  have X := h.push hI hq h0 (vn_dl hI.mi (hI.2.2.2 q hq).2.1 h2) hn
  have e0 : ∀ z, up3 (up3 n 3 q 5 4) 3 q 7 (n 0 0 3 - n 3 q 3) 0 0 z = n 0 0 z := fun z => by rw [up3_ne (by omega), up3_ne (by omega)]
  have e2 : up3 (up3 n 3 q 5 4) 3 q 7 (n 0 0 3 - n 3 q 3) 2 = n 2 := by rw [up3_fam (by decide), up3_fam (by decide)]
  have e5 : up3 (up3 n 3 q 5 4) 3 q 7 (n 0 0 3 - n 3 q 3) 3 q 5 = 4 := by rw [up3_ne (by omega), up3_self]
  have e1 : up3 (up3 n 3 q 5 4) 3 q 7 (n 0 0 3 - n 3 q 3) 3 q 1 = n 3 q 1 := by rw [up3_ne (by omega), up3_ne (by omega)]
  have fr := h.1.free hq (by rcases h0 with z | z <;> rw [z] <;> decide)
  exact (X.take (by rw [e0]; exact bt) (by rw [e0]; exact ba) (by omega) (by rw [e0]; exact ht) (by rw [e2]; exact f1) (Or.inr e5) (by rw [e2, e1]; exact f2) (by rw [e0, e2]; exact fr) (Or.inl rfl)).put
theorem bp_gxb (h : GX m) (hI : IN m) (hq : q < ix (m 0 0 2)) (hr : x_X1_reason m q = 0) : GX (x_X1_beginPush m q) := by
  obtain ⟨h0, h2, h3⟩ := re0 hr
  have nb : ∀ j, j < ix (m 0 0 0) → m 3 q 6 = nI j → _ := fun j hj e => re_nb hI hr hj e
  rw [x_X1_beginPush_eq]
  unfold y_X1_beginPush
  rw [if_neg h3]
  rcases ft_spec (m := m) (w := m 3 q 1) hI.nt.2 with ⟨e, -⟩ | ⟨t, ht, e, f1, f2, -⟩
  · exact absurd e h3
  · have bt := hI.nt.2
    rw [e, ix_nI (by omega)]
    by_cases g : m 3 q 5 = 2
    · rw [if_pos g]
      have e0 : x_X0_takeBuses m q 0 = m 0 := bu_f (by decide)
      have e1 : x_X0_takeBuses m q 1 = m 1 := bu_f (by decide)
      have e2 : x_X0_takeBuses m q 2 = m 2 := bu_f (by decide)
      have e3 : ∀ i k, k ≠ 9 → x_X0_takeBuses m q 3 i k = m 3 i k := fun i k hk => bu_k hk
      have pf : ∀ a, PF (x_X0_takeBuses m q) a ↔ PF m a := fun a => by
        unfold PF
        rw [e1, e3 _ 5 (by decide)]
      exact bp_gxc h.buses hI.buses (by rw [e0]; exact hq) (by rw [e3 _ 5 (by decide)]; exact h0) (by rw [e0, e3 _ 3 (by decide)]; exact h2) (fun j hj z => by
        rw [e0] at hj
        rw [e3 _ 6 (by decide)] at z
        have y := nb j hj z
        rw [e0]
        exact ⟨fun i hi x => y.1 i hi ((pf i).mp x), fun l x => y.2 l ((pf (j + 1)).mp x)⟩) (by rw [e0]; exact ht) (by rw [e2]; exact f1) (by rw [e2, e3 _ 1 (by decide)]; exact f2)
    · rw [if_neg g]
      exact bp_gxc h hI hq h0 h2 nb ht f1 f2
theorem QQ.wt (h : QQ B m m') (hB : B + 3 < 2 ^ 31) : QQ (B + 3) (x_X1_workTugs m) (x_X1_workTugs m') ∧ x_X1_workTugs m 0 = m 0 ∧ x_X1_workTugs m' 0 = m' 0 := by
  obtain ⟨⟨μ, r⟩, ⟨ν, r'⟩, g, g', t⟩ := h
  have a := wt_ok r hB
  have a' := wt_ok r' hB
  exact ⟨⟨⟨_, a.1⟩, ⟨_, a'.1⟩, ⟨wt_gs r.1.2 g.1, wt_sm r.1.2 g.1 g.2.1, wt_ds r.1.2 g.1 g.2.2⟩, ⟨wt_gs r'.1.2 g'.1, wt_sm r'.1.2 g'.1 g'.2.1, wt_ds r'.1.2 g'.1 g'.2.2⟩, wt_tw t r.1.2 r'.1.2 g.1 g'.1⟩, a.2, a'.2⟩
theorem QQ.rc (h : QQ B m m') (hB : B + 12 < 2 ^ 31) : QQ (B + 12) (x_X1_receive m) (x_X1_receive m') ∧ x_X1_receive m 0 = m 0 ∧ x_X1_receive m' 0 = m' 0 := by
  have ba := h.1.iN.na.2
  have e2 := h.2.2.2.2.c (z := 2) (by decide)
  rw [x_X1_receive_eq]
  unfold y_X1_receive
  rw [lf_X1_receive_2_eq]
  unfold ly_X1_receive_2
  rw [e2]
  have q := itr_rel (n := ix (m 0 0 2)) (s := m) (t := m') (P := fun i s s' => QQ (B + i) s s' ∧ s 0 = m 0 ∧ s' 0 = m' 0) (fun jz s => bd_X1_receive_2 jz s) (fun jz s => bd_X1_receive_2 jz s) (fun i s s' hi g => by
    obtain ⟨⟨⟨μ, r⟩, ⟨ν, r'⟩, g, g', t⟩, z, z'⟩ := g
    have j1 : i < ix (s 0 0 2) := by rw [z]; exact hi
    have j2 : i < ix (s' 0 0 2) := by rw [z', e2]; exact hi
    have a := rc_body r (by omega) j1
    have a' := rc_body r' (by omega) j2
    exact ⟨⟨⟨_, a.1⟩, ⟨_, a'.1⟩, rc_gxb g r.1.2 j1, rc_gxb g' r'.1.2 j2, rc_twb t g.2.2 j1⟩, a.2.trans z, a'.2.trans z'⟩) ⟨h, rfl, rfl⟩
  exact ⟨q.1.mono (by omega), q.2⟩
theorem QQ.tw (h : QQ B m m') (hB : B + 12 < 2 ^ 31) : QQ (B + 12) (x_X1_tow m) (x_X1_tow m') ∧ x_X1_tow m 0 = m 0 ∧ x_X1_tow m' 0 = m' 0 := by
  have ba := h.1.iN.na.2
  have e2 := h.2.2.2.2.c (z := 2) (by decide)
  rw [x_X1_tow_eq]
  unfold y_X1_tow
  rw [lf_X1_tow_2_eq]
  unfold ly_X1_tow_2
  rw [e2]
  have q := itr_rel (n := ix (m 0 0 2)) (s := m) (t := m') (P := fun i s s' => QQ (B + i) s s' ∧ s 0 = m 0 ∧ s' 0 = m' 0) (fun jz s => bd_X1_tow_2 jz s) (fun jz s => bd_X1_tow_2 jz s) (fun i s s' hi g => by
    obtain ⟨⟨⟨μ, r⟩, ⟨ν, r'⟩, g, g', t⟩, z, z'⟩ := g
    have j1 : i < ix (s 0 0 2) := by rw [z]; exact hi
    have j2 : i < ix (s' 0 0 2) := by rw [z', e2]; exact hi
    have a := tw_body r (by omega) j1
    have a' := tw_body r' (by omega) j2
    exact ⟨⟨⟨_, a.1⟩, ⟨_, a'.1⟩, tw_gxb g r.1.2 j1, tw_gxb g' r'.1.2 j2, tw_twb t g.2.2 j1⟩, a.2.trans z, a'.2.trans z'⟩) ⟨h, rfl, rfl⟩
  exact ⟨q.1.mono (by omega), q.2⟩
theorem QQ.pb (h : QQ B m m') (hB : B + 12 < 2 ^ 31) : QQ (B + 12) (x_X1_pushBack m) (x_X1_pushBack m') ∧ x_X1_pushBack m 0 = m 0 ∧ x_X1_pushBack m' 0 = m' 0 := by
  have ba := h.1.iN.na.2
  have e2 := h.2.2.2.2.c (z := 2) (by decide)
  rw [x_X1_pushBack_eq]
  unfold y_X1_pushBack
  rw [lf_X1_pushBack_4_eq]
  unfold ly_X1_pushBack_4
  rw [e2]
  have q := itr_rel (n := ix (m 0 0 2)) (s := (m, (-1 : Int32))) (t := (m', (-1 : Int32))) (P := fun i (s s' : Mem × Int32) => QQ (B + i) s.1 s'.1 ∧ (s.1 0 = m 0 ∧ s'.1 0 = m' 0) ∧ s'.2 = s.2 ∧ ∃ lo, LW s.2 lo) (fun jz s => bd_X1_pushBack_4 jz s.1 s.2) (fun jz s => bd_X1_pushBack_4 jz s.1 s.2) (fun i s s' hi g => ?_) ⟨h, ⟨rfl, rfl⟩, rfl, 0, Or.inl ⟨rfl, rfl⟩⟩
  · exact ⟨q.1.mono (by omega), q.2.1⟩
  · obtain ⟨x, w⟩ := s
    obtain ⟨x', w'⟩ := s'
    obtain ⟨⟨r, r', g, g', t⟩, ⟨z, z'⟩, ew, lo, hlo⟩ := g
    have ew : w' = w := ew
    subst ew
    have z : x 0 = m 0 := z
    have z' : x' 0 = m' 0 := z'
    have hlo : LW w' lo := hlo
    have r : RX (B + i) x := r
    have r' : RX (B + i) x' := r'
    have g : GX x := g
    have g' : GX x' := g'
    have t : TWN x x' := t
    show QQ (B + (i + 1)) (bd_X1_pushBack_4 i x w').1 (bd_X1_pushBack_4 i x' w').1 ∧ ((bd_X1_pushBack_4 i x w').1 0 = m 0 ∧ (bd_X1_pushBack_4 i x' w').1 0 = m' 0) ∧ (bd_X1_pushBack_4 i x' w').2 = (bd_X1_pushBack_4 i x w').2 ∧ ∃ lo, LW (bd_X1_pushBack_4 i x w').2 lo
    unfold bd_X1_pushBack_4
    rw [nl_tw t r.iN]
    rcases nl_ok r.iN hlo with ⟨e, -⟩ | ⟨p, hp, e, -⟩
    · rw [if_pos e, if_pos e]
      exact ⟨QQ.mono ⟨r, r', g, g', t⟩ (by omega), ⟨z, z'⟩, rfl, lo, hlo⟩
    · have n1 : ¬ x_X1_nextToLeave x w' = -1 := by rw [e]; exact nI_n1 (by rw [z] at hp; omega)
      rw [if_neg n1, if_neg n1, e, ix_nI (by rw [z] at hp; omega), re_tw t r.iN r'.iN g.2.2 hp]
      have hp' : p < ix (x' 0 0 2) := by rw [t.c (by decide)]; exact hp
      have hp12 : p < 12 := by rw [z] at hp; omega
      by_cases c : x_X1_reason x p = 0
      · rw [if_pos c, if_pos c]
        have c' : x_X1_reason x' p = 0 := by rw [re_tw t r.iN r'.iN g.2.2 hp]; exact c
        have f := bp_fr c hp12
        have f' := bp_fr c' hp12
        have R := r.bp (by omega) hp c
        have T := bp_twb t g.2.2 r.iN hp
        have hp2 : p < ix (x_X1_beginPush x p 0 0 2) := by rw [f.1]; exact hp
        refine ⟨⟨R, r'.bp (by omega) hp' c', bp_gxb g r.iN hp c, bp_gxb g' r'.iN hp' c', T⟩, ⟨f.1.trans z, f'.1.trans z'⟩, tn_tw T hp2, ky (x_X1_beginPush x p) p + 1, Or.inr ⟨_, tn_ky R.iN hp2, rfl, (ky_lt R.iN hp2).1⟩⟩
      · rw [if_neg c, if_neg c]
        exact ⟨QQ.mono ⟨r, r', g, g', t⟩ (by omega), ⟨z, z'⟩, tn_tw t hp, ky x p + 1, Or.inr ⟨_, tn_ky r.iN hp, rfl, (ky_lt r.iN hp).1⟩⟩
end PSH
