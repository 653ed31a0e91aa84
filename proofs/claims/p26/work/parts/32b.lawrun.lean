/-! the claim out of a light run of the law's table -/
theorem lt_in : ∀ w ∈ tables_1, w ∈ lw_tbl := fun _ h => List.mem_append_right _ h
theorem cl_known {args : Array Value} {s : State} (hts : ∀ w ∈ GW, w.before args s = true) : ∀ c : Nat, ∃ (cC : ClassId) (iS : Nat → Nat), ∀ q : vw_C, vwCl[c]? = some q → u_Kn s q.1 q.2.1 q.2.2 cC iS := by
  intro c
  have go : ∀ (C : String) (T : u_T) (N : Nat), vwCl[c]? = some (C, T, N) → (∀ w ∈ u_ws C T N, w ∈ GW) → Cond.instantiable C N ∈ GW → ∃ (cC : ClassId) (iS : Nat → Nat), ∀ q : vw_C, vwCl[c]? = some q → u_Kn s q.1 q.2.1 q.2.2 cC iS := by
    intro C T N hc hin hi
    obtain ⟨cC, iS, h⟩ := u_known (C := C) (T := T) (N := N) (n := N) hts hin (hts _ hi)
    exact ⟨cC, iS, fun q hq => by rw [hc] at hq; cases hq; exact h⟩
  rcases Nat.lt_or_ge c 7 with h8 | h8
  · rcases (show c = 0 ∨ c = 1 ∨ c = 2 ∨ c = 3 ∨ c = 4 ∨ c = 5 ∨ c = 6 by omega) with rfl | rfl | rfl | rfl | rfl | rfl | rfl
    · exact go RX0 TX0 10 rfl inX0 (gw_of (by decide +kernel) rfl)
    · exact go RX1 TX1 10 rfl inX1 (gw_of (by decide +kernel) rfl)
    · exact go RX2 TX2 4 rfl inX2 (gw_of (by decide +kernel) rfl)
    · exact go RX3 TX3 3 rfl inX3 (gw_of (by decide +kernel) rfl)
    · exact go RX4 TX4 9 rfl inX4 (gw_of (by decide +kernel) rfl)
    · exact go RX5 TX5 5 rfl inX5 (gw_of (by decide +kernel) rfl)
    · exact go RX6 TX6 5 rfl inX6 (gw_of (by decide +kernel) rfl)
  · refine ⟨0, fun _ => 0, fun q hq => ?_⟩
    have := (List.getElem?_eq_some_iff.mp hq).1
    have e : vwCl.length = 7 := rfl
    omega
theorem ar_known {args : Array Value} {s : State} (hts : ∀ w ∈ tables_1, w.before args s = true) : ∀ t : Nat, ∃ cA : ClassId, t < 7 → ArrOfT s cA (jT t) ∧ va_RA s cA (jT t) := by
  intro t
  have gp : ∀ ty : FieldType, Cond.arrayClass ty ∈ tables_1 → (∀ cA : ClassId, s.vm.findClass ("[" ++ ty.toString) = some cA → va_RA s cA ty) → ∃ cA : ClassId, ArrOfT s cA ty ∧ va_RA s cA ty := by
    intro ty h hra
    obtain ⟨c, k, comp, h1, h2, h3⟩ := Cond.arrayClass_spec (hts _ h)
    exact ⟨c, fun n z => ⟨(fun k h => by cases h), k, h2, comp, h3⟩, hra c h1⟩
  have go : ∀ C : String, Cond.arrayOver (.object C) ∈ tables_1 → ∃ cA : ClassId, ArrOfT s cA (.object C) ∧ va_RA s cA (.object C) := by
    intro C h
    obtain ⟨comp, c, k, f1, f2, f3, f4, f5⟩ := Cond.arrayOver_spec (hts _ h)
    exact ⟨c, fun n z => ⟨(fun k h => by cases h), k, f3, comp, f4⟩, k, comp, f3, f4, f1, f5⟩
  rcases Nat.lt_or_ge t 7 with h7 | h7
  · have : ∃ cA : ClassId, ArrOfT s cA (jT t) ∧ va_RA s cA (jT t) := by
      rcases (show t = 0 ∨ t = 1 ∨ t = 2 ∨ t = 3 ∨ t = 4 ∨ t = 5 ∨ t = 6 by omega) with rfl | rfl | rfl | rfl | rfl | rfl | rfl
      · exact gp .int (by decide +kernel) (fun _ h => h)
      · exact gp .int (by decide +kernel) (fun _ h => h)
      · exact gp .int (by decide +kernel) (fun _ h => h)
      · exact go _ (by decide +kernel)
      · exact go _ (by decide +kernel)
      · exact go _ (by decide +kernel)
      · exact go _ (by decide +kernel)
    obtain ⟨cA, h⟩ := this
    exact ⟨cA, fun _ => h⟩
  · exact ⟨0, fun h => absurd h (by omega)⟩
theorem str_at : ∀ z ∈ STR, Cond.exactly (.string z.1 z.2.1) "java/lang/String" ∈ flatC (Jvm.Cond.and given_1 narrow_1) := by decide +kernel
theorem ncs_at : ∀ z ∈ NCS, Cond.not (.castable z.1 z.2) ∈ flatC (Jvm.Cond.and given_1 narrow_1) := by decide +kernel
theorem jK_start {b : Nat} {s : State} (hts : ∀ w ∈ lw_tbl, w.before #[Value.ref b] s = true) (hgv : (Jvm.Cond.and given_1 narrow_1).before #[Value.ref b] s = true) : ∃ (D : va_G) (g : Nat → ClassId), jK D g s := by
  have ht : ∀ w ∈ tables_1, w.before #[Value.ref b] s = true := fun w h => hts w (lt_in w h)
  have hfl := flat_of_before _ hgv
  have hc := cl_known (fun w h => hts w (gw_in w h))
  have ha := ar_known ht
  refine ⟨(fun c => Classical.choose (hc c), fun c => Classical.choose (Classical.choose_spec (hc c))), fun t => Classical.choose (ha t), ⟨fun c q hq => Classical.choose_spec (Classical.choose_spec (hc c)) q hq, fun k q hq => ?_⟩, fun w hw => va_Nw.of (nw_tab w hw) (ht w (nw_in w hw)), fun C hC => va_AO.of (ht _ (ao_in C hC)), fun z hz => ?_, fun z hz => va_Nc.of (hfl _ (ncs_at z hz))⟩
  · have hk : k < 7 := by
      have := (List.getElem?_eq_some_iff.mp hq).1
      simpa [jtys] using this
    rw [jtys_at _ hk] at hq
    cases hq
    exact Classical.choose_spec (ha k) hk
  · obtain ⟨a, c, cell, k, q1, -⟩ := Cond.exactly_spec (args := #[Value.ref b]) (first := s) (o := none) (s := s) (idx := []) (t := .string z.1 z.2.1) (cls := "java/lang/String") (hfl _ (str_at z hz))
    exact ⟨a, vk_R.of (ht _ (str_in z hz)) q1⟩
def hf0 : JM := fun _ => .inr (99, [])
theorem law_of_run {p : Program} {e : Env} {s : State} {m : MethodId} {below : List Frame} {meth : Method} {c : Code} (l : Launch) (hflags : l.flags = flags0) {b L : Nat} {xs : Nat → Int32} (C0 : lw_At p s m meth c b L xs) {k : Nat} {hf : JH} (hk1 : hf.2.1 ≤ 600104) (hk2 : hf.2.2.1 ≤ 7301314)
    (hrun : JG (Ev mtab mcode 8) (jcL_law L xs) k (0, lv_args 0 [.ref 0], []) (1, 0, 0, hf0) (.inl (some (.int 1))) hf) : W p l e room_1 s m #[Value.ref b] below meth c s.heap [] 0 0 (lw_Z below #[Value.ref b] s) (entryFrame m ([Value.ref b] : List Value).toArray 7) := by
  obtain ⟨hx, hb, hr, hml, hown, hts, hX, hbl, hlocks, hgv⟩ := id C0
  obtain ⟨D, g, hK⟩ := jK_start hts hgv
  have hfl := flat_of_before _ hgv
  have hA : ∀ a : Nat, a < s.heap.size → ¬ (fun q : Nat => s.heap.size ≤ q) a := fun a h => Nat.not_le.mpr h
  have hZ : jZ (fun q : Nat => s.heap.size ≤ q) s s.heap := ⟨vx_Zqof (hts _ (lt_in _ (by decide +kernel))) (hts _ (lt_in _ (by decide +kernel))) (hfl _ (by decide +kernel)) hA, vx_Zqof (hts _ (lt_in _ (by decide +kernel))) (hts _ (lt_in _ (by decide +kernel))) (hfl _ (by decide +kernel)) hA⟩
  have hC : jC cL_law RL ("law", []) 7 (8 + 1) (some (L, xs)) ((p, l, e, room_1, s), (m, #[Value.ref b], below, meth, c), (D, g), (fun q : Nat => s.heap.size ≤ q, 7, 1, fun _ => b), (0, 0, 600104, 7301314), lw_Z below #[Value.ref b] s) :=
    ⟨hx, hb, hown, ⟨hml, rfl⟩, fun w hw => hts w (gw_in w hw), hK, hZ, ⟨Nat.le_of_ble_eq_true rfl, Nat.le_of_ble_eq_true rfl, Nat.le_of_ble_eq_true rfl, Nat.le_of_ble_eq_true rfl⟩, ⟨fun q h0 h1 => by omega, fun x hx => hx⟩, fun L' xs' h => by cases h; exact ⟨hX, hbl, Nat.not_le.mpr hbl, Nat.one_pos⟩, by unfold Launch.stackTraces; rw [hflags]; decide +kernel, hlocks, fun h => absurd h (by decide), fun h => absurd rfl h⟩
  have hW := run_ok (ev_ok mtab_ok 8) (okL_law L xs) hC (o := .inl (some (.int 1))) (hf := hf) (by
    intro a ls H locs cells slots pc i hq g1 g2 hd hret
    obtain ⟨kR, kS, k3, k4, k5, k6, k7, k8⟩ := hq
    rcases hret with ⟨rfl, x, hx1⟩ | ⟨rfl, x, hx1⟩ | ⟨rfl, x, hx1⟩ | ⟨rfl, hx1⟩
    · refine va_forget (fun q hq => kS.2.2 q hq) ?_
      refine W.widen (k := 600104) (n := 7301314) (by omega) (by omega) ?_
      exact lw_ret (d0 := s.drawn) (Drawn.sameBut.refl s.drawn lw_cs) hx hb hr hlocks hd
    · cases hx1
    · cases hx1
    · cases hx1) hk1 hk2 k _ _ hrun
  rw [lg_entry_eq]
  have hl := lv_entry ([.ref b]) (n := 7) (Nat.le_of_ble_eq_true rfl)
  refine hW (fun _ => b) _ s.heap [] 0 0 ?_ ⟨⟨fun q h0 h1 => ?_, fun q r h0 h1 => ?_, fun q h0 h1 => ?_, Nat.one_pos, fun q h => rfl⟩, va_S.rf, fun _ _ => rfl, fun _ => rfl, fun q h0 h1 => ?_, Nat.le_refl _, rfl, rfl⟩ (Nat.zero_le _) (Nat.zero_le _)
  · exact hl
  · have h1' : q < 1 := h1
    omega
  · have h1' : q < 1 := h1
    omega
  · have h1' : q < 1 := h1
    omega
  · have h1' : q < 1 := h1
    omega
