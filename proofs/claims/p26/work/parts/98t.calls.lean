/-! the law's memory: the two objects; each call on the one or on the other -/
abbrev lw (S T : Sys) : JM := sy 0 S (sy 182 T hf0)
section LWC
variable {d n c s B : Nat} {S T S' T' : Sys} {v p1 p2 p3 p4 : Int32}
theorem lw_sw : lw S T = sy 182 T (sy 0 S hf0) := sy_sy (by decide)
theorem lw_o : lw S T 1 = cX 0 (S 0 0 0) := sy_X
theorem lw_p : lw S T 183 = cX 182 (T 0 0 0) := (congrFun lw_sw 183).trans sy_X
theorem o_aircraft (hd : 6 ≤ d) (hK : SK B S) (hB : B + 200000 < 2147483648) (e : x_X6_aircraft S p1 p2 = .inl v) : Ev mtab mcode d 69 [.ref 1, .int p1, .int p2] (n, c, s, lw S T) (.inl (some (.int v))) (n, c, s, lw S T) := by
  have q := ev_X6_aircraft (bb := 0) (n := n) (c := c) (s := s) (M := sy 182 T hf0) hd hK (by omega) (e : x_X6_aircraft S p1 p2 = _)
  exact q
theorem p_aircraft (hd : 6 ≤ d) (hK : SK B T) (hB : B + 200000 < 2147483648) (e : x_X6_aircraft T p1 p2 = .inl v) : Ev mtab mcode d 69 [.ref 183, .int p1, .int p2] (n, c, s, lw S T) (.inl (some (.int v))) (n, c, s, lw S T) := by
  have q := ev_X6_aircraft (bb := 182) (n := n) (c := c) (s := s) (M := sy 0 S hf0) hd hK (by omega) (e : x_X6_aircraft T p1 p2 = _)
  rw [show sy 182 T (sy 0 S hf0) = lw S T from lw_sw.symm] at q
  exact q
theorem o_stand (hd : 6 ≤ d) (hK : SK B S) (hB : B + 200000 < 2147483648) (e : x_X6_stand S p1 p2 = .inl v) : Ev mtab mcode d 70 [.ref 1, .int p1, .int p2] (n, c, s, lw S T) (.inl (some (.int v))) (n, c, s, lw S T) := by
  have q := ev_X6_stand (bb := 0) (n := n) (c := c) (s := s) (M := sy 182 T hf0) hd hK (by omega) (e : x_X6_stand S p1 p2 = _)
  exact q
theorem p_stand (hd : 6 ≤ d) (hK : SK B T) (hB : B + 200000 < 2147483648) (e : x_X6_stand T p1 p2 = .inl v) : Ev mtab mcode d 70 [.ref 183, .int p1, .int p2] (n, c, s, lw S T) (.inl (some (.int v))) (n, c, s, lw S T) := by
  have q := ev_X6_stand (bb := 182) (n := n) (c := c) (s := s) (M := sy 0 S hf0) hd hK (by omega) (e : x_X6_stand T p1 p2 = _)
  rw [show sy 182 T (sy 0 S hf0) = lw S T from lw_sw.symm] at q
  exact q
theorem o_tug (hd : 6 ≤ d) (hK : SK B S) (hB : B + 200000 < 2147483648) (e : x_X6_tug S p1 p2 = .inl v) : Ev mtab mcode d 71 [.ref 1, .int p1, .int p2] (n, c, s, lw S T) (.inl (some (.int v))) (n, c, s, lw S T) := by
  have q := ev_X6_tug (bb := 0) (n := n) (c := c) (s := s) (M := sy 182 T hf0) hd hK (by omega) (e : x_X6_tug S p1 p2 = _)
  exact q
theorem p_tug (hd : 6 ≤ d) (hK : SK B T) (hB : B + 200000 < 2147483648) (e : x_X6_tug T p1 p2 = .inl v) : Ev mtab mcode d 71 [.ref 183, .int p1, .int p2] (n, c, s, lw S T) (.inl (some (.int v))) (n, c, s, lw S T) := by
  have q := ev_X6_tug (bb := 182) (n := n) (c := c) (s := s) (M := sy 0 S hf0) hd hK (by omega) (e : x_X6_tug T p1 p2 = _)
  rw [show sy 182 T (sy 0 S hf0) = lw S T from lw_sw.symm] at q
  exact q
theorem o_value (hd : 6 ≤ d) (hK : SK B S) (hB : B + 200000 < 2147483648) (e : x_X6_value S p1 = .inl v) : Ev mtab mcode d 72 [.ref 1, .int p1] (n, c, s, lw S T) (.inl (some (.int v))) (n, c, s, lw S T) := by
  have q := ev_X6_value (bb := 0) (n := n) (c := c) (s := s) (M := sy 182 T hf0) hd hK (by omega) (e : x_X6_value S p1 = _)
  exact q
theorem p_value (hd : 6 ≤ d) (hK : SK B T) (hB : B + 200000 < 2147483648) (e : x_X6_value T p1 = .inl v) : Ev mtab mcode d 72 [.ref 183, .int p1] (n, c, s, lw S T) (.inl (some (.int v))) (n, c, s, lw S T) := by
  have q := ev_X6_value (bb := 182) (n := n) (c := c) (s := s) (M := sy 0 S hf0) hd hK (by omega) (e : x_X6_value T p1 = _)
  rw [show sy 182 T (sy 0 S hf0) = lw S T from lw_sw.symm] at q
  exact q
theorem o_why (hd : 6 ≤ d) (hK : SK B S) (hB : B + 200000 < 2147483648) (e : x_X6_why S p1 = .inl v) : Ev mtab mcode d 74 [.ref 1, .int p1] (n, c, s, lw S T) (.inl (some (.int v))) (n, c, s, lw S T) := by
  have q := ev_X6_why (bb := 0) (n := n) (c := c) (s := s) (M := sy 182 T hf0) hd hK (by omega) (e : x_X6_why S p1 = _)
  exact q
theorem p_why (hd : 6 ≤ d) (hK : SK B T) (hB : B + 200000 < 2147483648) (e : x_X6_why T p1 = .inl v) : Ev mtab mcode d 74 [.ref 183, .int p1] (n, c, s, lw S T) (.inl (some (.int v))) (n, c, s, lw S T) := by
  have q := ev_X6_why (bb := 182) (n := n) (c := c) (s := s) (M := sy 0 S hf0) hd hK (by omega) (e : x_X6_why T p1 = _)
  rw [show sy 182 T (sy 0 S hf0) = lw S T from lw_sw.symm] at q
  exact q
theorem o_begin (hd : 6 ≤ d) (hK : SK B S) (hB : B + 200000 < 2147483648) (e : (x_X6_begin S p1 p2).2 = .inl v) : Ev mtab mcode d 62 [.ref 1, .int p1, .int p2] (n, c, s, lw S T) (.inl (some (.int v))) (n, c, s, lw (x_X6_begin S p1 p2).1 T) := by
  have q := ev_X6_begin (bb := 0) (n := n) (c := c) (s := s) (M := sy 182 T hf0) hd hK (by omega) (rfl : x_X6_begin S p1 p2 = _)
  rw [e] at q
  exact q
theorem p_begin (hd : 6 ≤ d) (hK : SK B T) (hB : B + 200000 < 2147483648) (e : (x_X6_begin T p1 p2).2 = .inl v) : Ev mtab mcode d 62 [.ref 183, .int p1, .int p2] (n, c, s, lw S T) (.inl (some (.int v))) (n, c, s, lw S (x_X6_begin T p1 p2).1) := by
  have q := ev_X6_begin (bb := 182) (n := n) (c := c) (s := s) (M := sy 0 S hf0) hd hK (by omega) (rfl : x_X6_begin T p1 p2 = _)
  rw [e] at q
  rw [show sy 182 T (sy 0 S hf0) = lw S T from lw_sw.symm, show sy 182 (x_X6_begin T p1 p2).1 (sy 0 S hf0) = lw S (x_X6_begin T p1 p2).1 from lw_sw.symm] at q
  exact q
theorem o_setSpan (hd : 6 ≤ d) (hK : SK B S) (hB : B + 200000 < 2147483648) (e : (x_X6_setSpan S p1 p2).2 = .inl v) : Ev mtab mcode d 63 [.ref 1, .int p1, .int p2] (n, c, s, lw S T) (.inl (some (.int v))) (n, c, s, lw (x_X6_setSpan S p1 p2).1 T) := by
  have q := ev_X6_setSpan (bb := 0) (n := n) (c := c) (s := s) (M := sy 182 T hf0) hd hK (by omega) (rfl : x_X6_setSpan S p1 p2 = _)
  rw [e] at q
  exact q
theorem p_setSpan (hd : 6 ≤ d) (hK : SK B T) (hB : B + 200000 < 2147483648) (e : (x_X6_setSpan T p1 p2).2 = .inl v) : Ev mtab mcode d 63 [.ref 183, .int p1, .int p2] (n, c, s, lw S T) (.inl (some (.int v))) (n, c, s, lw S (x_X6_setSpan T p1 p2).1) := by
  have q := ev_X6_setSpan (bb := 182) (n := n) (c := c) (s := s) (M := sy 0 S hf0) hd hK (by omega) (rfl : x_X6_setSpan T p1 p2 = _)
  rw [e] at q
  rw [show sy 182 T (sy 0 S hf0) = lw S T from lw_sw.symm, show sy 182 (x_X6_setSpan T p1 p2).1 (sy 0 S hf0) = lw S (x_X6_setSpan T p1 p2).1 from lw_sw.symm] at q
  exact q
theorem o_setStrength (hd : 6 ≤ d) (hK : SK B S) (hB : B + 200000 < 2147483648) (e : (x_X6_setStrength S p1 p2).2 = .inl v) : Ev mtab mcode d 64 [.ref 1, .int p1, .int p2] (n, c, s, lw S T) (.inl (some (.int v))) (n, c, s, lw (x_X6_setStrength S p1 p2).1 T) := by
  have q := ev_X6_setStrength (bb := 0) (n := n) (c := c) (s := s) (M := sy 182 T hf0) hd hK (by omega) (rfl : x_X6_setStrength S p1 p2 = _)
  rw [e] at q
  exact q
theorem p_setStrength (hd : 6 ≤ d) (hK : SK B T) (hB : B + 200000 < 2147483648) (e : (x_X6_setStrength T p1 p2).2 = .inl v) : Ev mtab mcode d 64 [.ref 183, .int p1, .int p2] (n, c, s, lw S T) (.inl (some (.int v))) (n, c, s, lw S (x_X6_setStrength T p1 p2).1) := by
  have q := ev_X6_setStrength (bb := 182) (n := n) (c := c) (s := s) (M := sy 0 S hf0) hd hK (by omega) (rfl : x_X6_setStrength T p1 p2 = _)
  rw [e] at q
  rw [show sy 182 T (sy 0 S hf0) = lw S T from lw_sw.symm, show sy 182 (x_X6_setStrength T p1 p2).1 (sy 0 S hf0) = lw S (x_X6_setStrength T p1 p2).1 from lw_sw.symm] at q
  exact q
theorem o_setLeaves (hd : 6 ≤ d) (hK : SK B S) (hB : B + 200000 < 2147483648) (e : (x_X6_setLeaves S p1 p2).2 = .inl v) : Ev mtab mcode d 67 [.ref 1, .int p1, .int p2] (n, c, s, lw S T) (.inl (some (.int v))) (n, c, s, lw (x_X6_setLeaves S p1 p2).1 T) := by
  have q := ev_X6_setLeaves (bb := 0) (n := n) (c := c) (s := s) (M := sy 182 T hf0) hd hK (by omega) (rfl : x_X6_setLeaves S p1 p2 = _)
  rw [e] at q
  exact q
theorem p_setLeaves (hd : 6 ≤ d) (hK : SK B T) (hB : B + 200000 < 2147483648) (e : (x_X6_setLeaves T p1 p2).2 = .inl v) : Ev mtab mcode d 67 [.ref 183, .int p1, .int p2] (n, c, s, lw S T) (.inl (some (.int v))) (n, c, s, lw S (x_X6_setLeaves T p1 p2).1) := by
  have q := ev_X6_setLeaves (bb := 182) (n := n) (c := c) (s := s) (M := sy 0 S hf0) hd hK (by omega) (rfl : x_X6_setLeaves T p1 p2 = _)
  rw [e] at q
  rw [show sy 182 T (sy 0 S hf0) = lw S T from lw_sw.symm, show sy 182 (x_X6_setLeaves T p1 p2).1 (sy 0 S hf0) = lw S (x_X6_setLeaves T p1 p2).1 from lw_sw.symm] at q
  exact q
theorem o_setCurfew (hd : 6 ≤ d) (hK : SK B S) (hB : B + 200000 < 2147483648) (e : (x_X6_setCurfew S p1 p2).2 = .inl v) : Ev mtab mcode d 65 [.ref 1, .int p1, .int p2] (n, c, s, lw S T) (.inl (some (.int v))) (n, c, s, lw (x_X6_setCurfew S p1 p2).1 T) := by
  have q := ev_X6_setCurfew (bb := 0) (n := n) (c := c) (s := s) (M := sy 182 T hf0) hd hK (by omega) (rfl : x_X6_setCurfew S p1 p2 = _)
  rw [e] at q
  exact q
theorem p_setCurfew (hd : 6 ≤ d) (hK : SK B T) (hB : B + 200000 < 2147483648) (e : (x_X6_setCurfew T p1 p2).2 = .inl v) : Ev mtab mcode d 65 [.ref 183, .int p1, .int p2] (n, c, s, lw S T) (.inl (some (.int v))) (n, c, s, lw S (x_X6_setCurfew T p1 p2).1) := by
  have q := ev_X6_setCurfew (bb := 182) (n := n) (c := c) (s := s) (M := sy 0 S hf0) hd hK (by omega) (rfl : x_X6_setCurfew T p1 p2 = _)
  rw [e] at q
  rw [show sy 182 T (sy 0 S hf0) = lw S T from lw_sw.symm, show sy 182 (x_X6_setCurfew T p1 p2).1 (sy 0 S hf0) = lw S (x_X6_setCurfew T p1 p2).1 from lw_sw.symm] at q
  exact q
theorem o_expect (hd : 6 ≤ d) (hK : SK B S) (hB : B + 200000 < 2147483648) (e : (x_X6_expect S p1 p2 p3 p4).2 = .inl v) : Ev mtab mcode d 66 [.ref 1, .int p1, .int p2, .int p3, .int p4] (n, c, s, lw S T) (.inl (some (.int v))) (n, c, s, lw (x_X6_expect S p1 p2 p3 p4).1 T) := by
  have q := ev_X6_expect (bb := 0) (n := n) (c := c) (s := s) (M := sy 182 T hf0) hd hK (by omega) (rfl : x_X6_expect S p1 p2 p3 p4 = _)
  rw [e] at q
  exact q
theorem p_expect (hd : 6 ≤ d) (hK : SK B T) (hB : B + 200000 < 2147483648) (e : (x_X6_expect T p1 p2 p3 p4).2 = .inl v) : Ev mtab mcode d 66 [.ref 183, .int p1, .int p2, .int p3, .int p4] (n, c, s, lw S T) (.inl (some (.int v))) (n, c, s, lw S (x_X6_expect T p1 p2 p3 p4).1) := by
  have q := ev_X6_expect (bb := 182) (n := n) (c := c) (s := s) (M := sy 0 S hf0) hd hK (by omega) (rfl : x_X6_expect T p1 p2 p3 p4 = _)
  rw [e] at q
  rw [show sy 182 T (sy 0 S hf0) = lw S T from lw_sw.symm, show sy 182 (x_X6_expect T p1 p2 p3 p4).1 (sy 0 S hf0) = lw S (x_X6_expect T p1 p2 p3 p4).1 from lw_sw.symm] at q
  exact q
theorem o_pass (hd : 6 ≤ d) (hK : SK B S) (hB : B + 200000 < 2147483648) (e : (x_X6_pass S p1).2 = .inl v) : Ev mtab mcode d 68 [.ref 1, .int p1] (n, c, s, lw S T) (.inl (some (.int v))) (n, c, s, lw (x_X6_pass S p1).1 T) := by
  have q := ev_X6_pass (bb := 0) (n := n) (c := c) (s := s) (M := sy 182 T hf0) hd hK (by omega) (rfl : x_X6_pass S p1 = _)
  rw [e] at q
  exact q
theorem p_pass (hd : 6 ≤ d) (hK : SK B T) (hB : B + 200000 < 2147483648) (e : (x_X6_pass T p1).2 = .inl v) : Ev mtab mcode d 68 [.ref 183, .int p1] (n, c, s, lw S T) (.inl (some (.int v))) (n, c, s, lw S (x_X6_pass T p1).1) := by
  have q := ev_X6_pass (bb := 182) (n := n) (c := c) (s := s) (M := sy 0 S hf0) hd hK (by omega) (rfl : x_X6_pass T p1 = _)
  rw [e] at q
  rw [show sy 182 T (sy 0 S hf0) = lw S T from lw_sw.symm, show sy 182 (x_X6_pass T p1).1 (sy 0 S hf0) = lw S (x_X6_pass T p1).1 from lw_sw.symm] at q
  exact q
theorem o_delayOf (hd : 6 ≤ d) (hK : SK B S) (hB : B + 200000 < 2147483648) (e : (x_X6_delayOf S p1).2 = .inl v) : Ev mtab mcode d 75 [.ref 1, .int p1] (n, c, s, lw S T) (.inl (some (.int v))) (n, c, s, lw (x_X6_delayOf S p1).1 T) := by
  have q := ev_X6_delayOf (bb := 0) (n := n) (c := c) (s := s) (M := sy 182 T hf0) hd hK (by omega) (rfl : x_X6_delayOf S p1 = _)
  rw [e] at q
  exact q
theorem p_delayOf (hd : 6 ≤ d) (hK : SK B T) (hB : B + 200000 < 2147483648) (e : (x_X6_delayOf T p1).2 = .inl v) : Ev mtab mcode d 75 [.ref 183, .int p1] (n, c, s, lw S T) (.inl (some (.int v))) (n, c, s, lw S (x_X6_delayOf T p1).1) := by
  have q := ev_X6_delayOf (bb := 182) (n := n) (c := c) (s := s) (M := sy 0 S hf0) hd hK (by omega) (rfl : x_X6_delayOf T p1 = _)
  rw [e] at q
  rw [show sy 182 T (sy 0 S hf0) = lw S T from lw_sw.symm, show sy 182 (x_X6_delayOf T p1).1 (sy 0 S hf0) = lw S (x_X6_delayOf T p1).1 from lw_sw.symm] at q
  exact q
theorem o_undo (hd : 6 ≤ d) (hK : SK B S) (hB : B + 200000 < 2147483648) (e : (x_X6_undo S).2 = .inl v) : Ev mtab mcode d 83 [.ref 1] (n, c, s, lw S T) (.inl (some (.int v))) (n, c, s, lw (x_X6_undo S).1 T) := by
  have q := ev_X6_undo (bb := 0) (n := n) (c := c) (s := s) (M := sy 182 T hf0) hd hK (rfl : x_X6_undo S = _)
  rw [e] at q
  exact q
theorem p_undo (hd : 6 ≤ d) (hK : SK B T) (hB : B + 200000 < 2147483648) (e : (x_X6_undo T).2 = .inl v) : Ev mtab mcode d 83 [.ref 183] (n, c, s, lw S T) (.inl (some (.int v))) (n, c, s, lw S (x_X6_undo T).1) := by
  have q := ev_X6_undo (bb := 182) (n := n) (c := c) (s := s) (M := sy 0 S hf0) hd hK (rfl : x_X6_undo T = _)
  rw [e] at q
  rw [show sy 182 T (sy 0 S hf0) = lw S T from lw_sw.symm, show sy 182 (x_X6_undo T).1 (sy 0 S hf0) = lw S (x_X6_undo T).1 from lw_sw.symm] at q
  exact q
theorem o_minutesToAll (hd : 6 ≤ d) (hK : SK B S) (hB : B + 200000 < 2147483648)  : Ev mtab mcode d 76 [.ref 1] (n, c, s, lw S T) (.inl (some (.int (x_X6_minutesToAll S).2))) (n, c, s, lw (x_X6_minutesToAll S).1 T) := by
  have q := ev_X6_minutesToAll (bb := 0) (n := n) (c := c) (s := s) (M := sy 182 T hf0) hd hK (by omega) (rfl : x_X6_minutesToAll S = _)
  exact q
theorem p_minutesToAll (hd : 6 ≤ d) (hK : SK B T) (hB : B + 200000 < 2147483648)  : Ev mtab mcode d 76 [.ref 183] (n, c, s, lw S T) (.inl (some (.int (x_X6_minutesToAll T).2))) (n, c, s, lw S (x_X6_minutesToAll T).1) := by
  have q := ev_X6_minutesToAll (bb := 182) (n := n) (c := c) (s := s) (M := sy 0 S hf0) hd hK (by omega) (rfl : x_X6_minutesToAll T = _)
  rw [show sy 182 T (sy 0 S hf0) = lw S T from lw_sw.symm, show sy 182 (x_X6_minutesToAll T).1 (sy 0 S hf0) = lw S (x_X6_minutesToAll T).1 from lw_sw.symm] at q
  exact q
theorem o_used (hd : 1 ≤ d) (hF : FK (S 1)) (hT : VN 13000 (S 1 0 0 3)) (hS : ¬ S 1 0 0 0 = 0) : Ev mtab mcode d 79 [.ref 1] (n, c, s, lw S T) (.inl (some (.double (x_X6_used S)))) (n, c, s, lw S T) := ev_X6_used (bb := 0) hd hF hT hS rfl
theorem p_used (hd : 1 ≤ d) (hF : FK (T 1)) (hT : VN 13000 (T 1 0 0 3)) (hS : ¬ T 1 0 0 0 = 0) : Ev mtab mcode d 79 [.ref 183] (n, c, s, lw S T) (.inl (some (.double (x_X6_used T)))) (n, c, s, lw S T) := by
  have q := ev_X6_used (bb := 182) (n := n) (c := c) (s := s) (M := sy 0 S hf0) hd hF hT hS rfl
  rw [show sy 182 T (sy 0 S hf0) = lw S T from lw_sw.symm] at q
  exact q
theorem dc_eq {x : UInt64} (h : FP.Core.dIsNaN x = false) : Op.cmpValue (FP.dcmp x x) .l = 0 := by
  rw [show FP.dcmp x x = some .eq from FP.Core.dcmp_refl h]
  rfl
end LWC
/-! the law's small functions -/
def upv (x n : Int32) : Int32 := (x &&& 2147483647) - (x &&& 2147483647) / n * n
theorem and_mask (x : Int32) : ∃ m, m < 2 ^ 31 ∧ x &&& 2147483647 = nI m := by
  refine ⟨(x &&& 2147483647).toBitVec.toNat, ?_, ?_⟩
  · rw [Int32.toBitVec_and, BitVec.toNat_and]
    exact Nat.lt_of_le_of_lt Nat.and_le_right (by decide)
  · apply Int32.toBitVec_inj.mp
    apply BitVec.eq_of_toNat_eq
    unfold nI
    have l : (x &&& 2147483647).toBitVec.toNat < 2 ^ 32 := (x &&& 2147483647).toBitVec.isLt
    show _ = (BitVec.ofNat 32 _).toNat
    rw [BitVec.toNat_ofNat, Nat.mod_eq_of_lt l]
theorem up_ex (x : Int32) {N : Nat} {y : Int32} (hy : y = nI N) (h0 : 0 < N) (hN : N < 2 ^ 31) : ∃ r, r < N ∧ upv x y = nI r := by
  obtain ⟨m, hm, e⟩ := and_mask x
  refine ⟨m % N, Nat.mod_lt _ h0, ?_⟩
  unfold upv
  rw [e, hy]
  exact pk_rem hm h0 hN
theorem JV.ldci {E : JE} {cd : List (Nat × JA)} {pc p2 : Nat} {l : List (Nat × Value)} {st : List Value} {h hf : JH} {o : JO} {v : Int32} (hl : jlk cd pc = some (a_ldci v)) (hp : pc + 2 = p2) (k : JV E cd (p2, l, .int v :: st) h o hf) : JV E cd (pc, l, st) h o hf := by
  subst hp
  intro e he
  exact JR.one hl rfl (k e he)
theorem ev_up {d : Nat} {h : JH} {x y : Int32} (hd : 1 ≤ d) (hy : ¬ y = 0) : Ev mtab mcode d 157 [.int x, .int y] h (.inl (some (.int (upv x y)))) h := by
  obtain ⟨d, rfl⟩ : ∃ e, d = e + 1 := ⟨d - 1, by omega⟩
  refine jv_mk (m := mL_up) (cd := jcL_up) rfl rfl (Nat.le_of_ble_eq_true rfl) trivial ?_
  refine JV.ild (p2 := 1) rfl rfl rfl ?_
  refine JV.ldci (p2 := 3) rfl rfl ?_
  refine JV.stk (len := 1) (sem := s_iand) (p2 := 4) rfl rfl rfl ?_
  refine JV.ild (p2 := 5) rfl rfl rfl ?_
  refine JV.stk (len := 1) (sem := s_irem) (p2 := 6) rfl (if_neg hy) rfl ?_
  exact JV.ret rfl (fun _ => rfl) rfl rfl
theorem ev_turned {d : Nat} {h : JH} {x y : Int32} (hd : 1 ≤ d) : Ev mtab mcode d 160 [.int x, .int y] h (.inl (some (.int (if x < 0 then x else y - x)))) h := by
  obtain ⟨d, rfl⟩ : ∃ e, d = e + 1 := ⟨d - 1, by omega⟩
  refine jv_mk (m := mL_turned) (cd := jcL_turned) rfl rfl (Nat.le_of_ble_eq_true rfl) trivial ?_
  refine JV.ild (p2 := 1) rfl rfl rfl ?_
  by_cases g : x < 0
  · rw [if_pos g]
    refine JV.brF (p2 := 4) rfl rfl rfl (Int32.not_le.mpr g) ?_
    refine JV.ild (p2 := 5) rfl rfl rfl ?_
    refine JV.goto rfl ?_
    exact JV.ret rfl (fun _ => rfl) rfl rfl
  · rw [if_neg g]
    refine JV.brT rfl rfl (Int32.not_lt.mp g) ?_
    refine JV.ild (p2 := 9) rfl rfl rfl ?_
    refine JV.ild (p2 := 10) rfl rfl rfl ?_
    refine JV.stk (len := 1) (sem := s_isub) (p2 := 11) rfl rfl rfl ?_
    exact JV.ret rfl (fun _ => rfl) rfl rfl
