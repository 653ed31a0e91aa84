/-! the class's whole memory: 1 the object, 2 now, 31 trial, 60 the saved row, 61, 90, 119, 148 the saved fields, 177 the timetable -/
abbrev Sys : Type := Nat → Mem
def us (S : Sys) (u : Nat) (m : Mem) : Sys := fun v => if v = u then m else S v
theorem us_same (S : Sys) (u : Nat) (m : Mem) : us S u m u = m := if_pos rfl
theorem us_ne {S : Sys} {u v : Nat} {m : Mem} (h : v ≠ u) : us S u m v = S v := if_neg h
theorem us_id (S : Sys) (u : Nat) : us S u (S u) = S := by
  funext v
  by_cases h : v = u
  · subst h
    exact us_same _ _ _
  · exact us_ne h
def cX (bb : Nat) (g : Nat → Int32) : JC := .inr (6, [.ref (bb + 2), .ref (bb + 31), .ref (bb + 60), .int (g 0), .ref (bb + 177)])
def cQ (bb : Nat) (g : Nat → Int32) : JC := .inl (6, 4, .inr (.inr (.inr (.inr fun i => if i < 4 then some (bb + 61 + 29 * ix (g i)) else none))))
def layX (bb : Nat) : Lay := (1, fun _ _ g => cX bb g, fun _ => (0, 0))
def layQ (bb : Nat) : Lay := (1, fun _ _ g => cQ bb g, fun _ => (1, 0))
def sy (bb : Nat) (S : Sys) (M : JM) : JM := um (layX bb) (bb + 1) (S 0) (um layF (bb + 2) (S 1) (um layF (bb + 31) (S 2) (um (layQ bb) (bb + 60) (S 0) (um layF (bb + 61) (S 3) (um layF (bb + 90) (S 4) (um layF (bb + 119) (S 5) (um layF (bb + 148) (S 6) (um layT (bb + 177) (S 7) M))))))))
theorem um_in {L : Lay} {b q : Nat} {m : Mem} {M : JM} (h : b ≤ q ∧ q < b + L.1) : um L b m M q = L.2.1 b (q - b) (m (L.2.2 (q - b)).1 (L.2.2 (q - b)).2) := if_pos h
section SYS
variable {S : Sys} {M : JM} {m : Mem} {i k : Nat} {v : Int32} {C : JC} {E : JE} {μ n c s bb : Nat} {as : List Value} {o : JO}
theorem sy_atX {q : Nat} (h : bb + 1 ≤ q ∧ q < bb + 2) : sy bb S M q = (layX bb).2.1 (bb + 1) (q - (bb + 1)) ((S 0) ((layX bb).2.2 (q - (bb + 1))).1 ((layX bb).2.2 (q - (bb + 1))).2) := by
  unfold sy
  exact um_in (L := (layX bb)) (b := (bb + 1)) (show (bb + 1) ≤ q ∧ q < (bb + 1) + 1 by omega)
theorem sy_at1 {q : Nat} (h : bb + 2 ≤ q ∧ q < bb + 31) : sy bb S M q = layF.2.1 (bb + 2) (q - (bb + 2)) ((S 1) (layF.2.2 (q - (bb + 2))).1 (layF.2.2 (q - (bb + 2))).2) := by
  unfold sy
  rw [um_out (L := (layX bb)) (b := (bb + 1)) (show ¬ (bb + 1 ≤ q ∧ q < (bb + 1) + 1) by omega)]
  exact um_in (L := layF) (b := (bb + 2)) (show (bb + 2) ≤ q ∧ q < (bb + 2) + 29 by omega)
theorem sy_at2 {q : Nat} (h : bb + 31 ≤ q ∧ q < bb + 60) : sy bb S M q = layF.2.1 (bb + 31) (q - (bb + 31)) ((S 2) (layF.2.2 (q - (bb + 31))).1 (layF.2.2 (q - (bb + 31))).2) := by
  unfold sy
  rw [um_out (L := (layX bb)) (b := (bb + 1)) (show ¬ (bb + 1 ≤ q ∧ q < (bb + 1) + 1) by omega), um_out (L := layF) (b := (bb + 2)) (show ¬ (bb + 2 ≤ q ∧ q < (bb + 2) + 29) by omega)]
  exact um_in (L := layF) (b := (bb + 31)) (show (bb + 31) ≤ q ∧ q < (bb + 31) + 29 by omega)
theorem sy_atQ {q : Nat} (h : bb + 60 ≤ q ∧ q < bb + 61) : sy bb S M q = (layQ bb).2.1 (bb + 60) (q - (bb + 60)) ((S 0) ((layQ bb).2.2 (q - (bb + 60))).1 ((layQ bb).2.2 (q - (bb + 60))).2) := by
  unfold sy
  rw [um_out (L := (layX bb)) (b := (bb + 1)) (show ¬ (bb + 1 ≤ q ∧ q < (bb + 1) + 1) by omega), um_out (L := layF) (b := (bb + 2)) (show ¬ (bb + 2 ≤ q ∧ q < (bb + 2) + 29) by omega), um_out (L := layF) (b := (bb + 31)) (show ¬ (bb + 31 ≤ q ∧ q < (bb + 31) + 29) by omega)]
  exact um_in (L := (layQ bb)) (b := (bb + 60)) (show (bb + 60) ≤ q ∧ q < (bb + 60) + 1 by omega)
theorem sy_at3 {q : Nat} (h : bb + 61 ≤ q ∧ q < bb + 90) : sy bb S M q = layF.2.1 (bb + 61) (q - (bb + 61)) ((S 3) (layF.2.2 (q - (bb + 61))).1 (layF.2.2 (q - (bb + 61))).2) := by
  unfold sy
  rw [um_out (L := (layX bb)) (b := (bb + 1)) (show ¬ (bb + 1 ≤ q ∧ q < (bb + 1) + 1) by omega), um_out (L := layF) (b := (bb + 2)) (show ¬ (bb + 2 ≤ q ∧ q < (bb + 2) + 29) by omega), um_out (L := layF) (b := (bb + 31)) (show ¬ (bb + 31 ≤ q ∧ q < (bb + 31) + 29) by omega), um_out (L := (layQ bb)) (b := (bb + 60)) (show ¬ (bb + 60 ≤ q ∧ q < (bb + 60) + 1) by omega)]
  exact um_in (L := layF) (b := (bb + 61)) (show (bb + 61) ≤ q ∧ q < (bb + 61) + 29 by omega)
theorem sy_at4 {q : Nat} (h : bb + 90 ≤ q ∧ q < bb + 119) : sy bb S M q = layF.2.1 (bb + 90) (q - (bb + 90)) ((S 4) (layF.2.2 (q - (bb + 90))).1 (layF.2.2 (q - (bb + 90))).2) := by
  unfold sy
  rw [um_out (L := (layX bb)) (b := (bb + 1)) (show ¬ (bb + 1 ≤ q ∧ q < (bb + 1) + 1) by omega), um_out (L := layF) (b := (bb + 2)) (show ¬ (bb + 2 ≤ q ∧ q < (bb + 2) + 29) by omega), um_out (L := layF) (b := (bb + 31)) (show ¬ (bb + 31 ≤ q ∧ q < (bb + 31) + 29) by omega), um_out (L := (layQ bb)) (b := (bb + 60)) (show ¬ (bb + 60 ≤ q ∧ q < (bb + 60) + 1) by omega), um_out (L := layF) (b := (bb + 61)) (show ¬ (bb + 61 ≤ q ∧ q < (bb + 61) + 29) by omega)]
  exact um_in (L := layF) (b := (bb + 90)) (show (bb + 90) ≤ q ∧ q < (bb + 90) + 29 by omega)
theorem sy_at5 {q : Nat} (h : bb + 119 ≤ q ∧ q < bb + 148) : sy bb S M q = layF.2.1 (bb + 119) (q - (bb + 119)) ((S 5) (layF.2.2 (q - (bb + 119))).1 (layF.2.2 (q - (bb + 119))).2) := by
  unfold sy
  rw [um_out (L := (layX bb)) (b := (bb + 1)) (show ¬ (bb + 1 ≤ q ∧ q < (bb + 1) + 1) by omega), um_out (L := layF) (b := (bb + 2)) (show ¬ (bb + 2 ≤ q ∧ q < (bb + 2) + 29) by omega), um_out (L := layF) (b := (bb + 31)) (show ¬ (bb + 31 ≤ q ∧ q < (bb + 31) + 29) by omega), um_out (L := (layQ bb)) (b := (bb + 60)) (show ¬ (bb + 60 ≤ q ∧ q < (bb + 60) + 1) by omega), um_out (L := layF) (b := (bb + 61)) (show ¬ (bb + 61 ≤ q ∧ q < (bb + 61) + 29) by omega), um_out (L := layF) (b := (bb + 90)) (show ¬ (bb + 90 ≤ q ∧ q < (bb + 90) + 29) by omega)]
  exact um_in (L := layF) (b := (bb + 119)) (show (bb + 119) ≤ q ∧ q < (bb + 119) + 29 by omega)
theorem sy_at6 {q : Nat} (h : bb + 148 ≤ q ∧ q < bb + 177) : sy bb S M q = layF.2.1 (bb + 148) (q - (bb + 148)) ((S 6) (layF.2.2 (q - (bb + 148))).1 (layF.2.2 (q - (bb + 148))).2) := by
  unfold sy
  rw [um_out (L := (layX bb)) (b := (bb + 1)) (show ¬ (bb + 1 ≤ q ∧ q < (bb + 1) + 1) by omega), um_out (L := layF) (b := (bb + 2)) (show ¬ (bb + 2 ≤ q ∧ q < (bb + 2) + 29) by omega), um_out (L := layF) (b := (bb + 31)) (show ¬ (bb + 31 ≤ q ∧ q < (bb + 31) + 29) by omega), um_out (L := (layQ bb)) (b := (bb + 60)) (show ¬ (bb + 60 ≤ q ∧ q < (bb + 60) + 1) by omega), um_out (L := layF) (b := (bb + 61)) (show ¬ (bb + 61 ≤ q ∧ q < (bb + 61) + 29) by omega), um_out (L := layF) (b := (bb + 90)) (show ¬ (bb + 90 ≤ q ∧ q < (bb + 90) + 29) by omega), um_out (L := layF) (b := (bb + 119)) (show ¬ (bb + 119 ≤ q ∧ q < (bb + 119) + 29) by omega)]
  exact um_in (L := layF) (b := (bb + 148)) (show (bb + 148) ≤ q ∧ q < (bb + 148) + 29 by omega)
theorem sy_at7 {q : Nat} (h : bb + 177 ≤ q ∧ q < bb + 183) : sy bb S M q = layT.2.1 (bb + 177) (q - (bb + 177)) ((S 7) (layT.2.2 (q - (bb + 177))).1 (layT.2.2 (q - (bb + 177))).2) := by
  unfold sy
  rw [um_out (L := (layX bb)) (b := (bb + 1)) (show ¬ (bb + 1 ≤ q ∧ q < (bb + 1) + 1) by omega), um_out (L := layF) (b := (bb + 2)) (show ¬ (bb + 2 ≤ q ∧ q < (bb + 2) + 29) by omega), um_out (L := layF) (b := (bb + 31)) (show ¬ (bb + 31 ≤ q ∧ q < (bb + 31) + 29) by omega), um_out (L := (layQ bb)) (b := (bb + 60)) (show ¬ (bb + 60 ≤ q ∧ q < (bb + 60) + 1) by omega), um_out (L := layF) (b := (bb + 61)) (show ¬ (bb + 61 ≤ q ∧ q < (bb + 61) + 29) by omega), um_out (L := layF) (b := (bb + 90)) (show ¬ (bb + 90 ≤ q ∧ q < (bb + 90) + 29) by omega), um_out (L := layF) (b := (bb + 119)) (show ¬ (bb + 119 ≤ q ∧ q < (bb + 119) + 29) by omega), um_out (L := layF) (b := (bb + 148)) (show ¬ (bb + 148 ≤ q ∧ q < (bb + 148) + 29) by omega)]
  exact um_in (L := layT) (b := (bb + 177)) (show (bb + 177) ≤ q ∧ q < (bb + 177) + 6 by omega)
theorem sy_out {q : Nat} (h : q < bb + 1 ∨ bb + 183 ≤ q) : sy bb S M q = M q := by
  unfold sy
  rw [um_out (L := (layX bb)) (b := (bb + 1)) (show ¬ (bb + 1 ≤ q ∧ q < (bb + 1) + 1) by omega), um_out (L := layF) (b := (bb + 2)) (show ¬ (bb + 2 ≤ q ∧ q < (bb + 2) + 29) by omega), um_out (L := layF) (b := (bb + 31)) (show ¬ (bb + 31 ≤ q ∧ q < (bb + 31) + 29) by omega), um_out (L := (layQ bb)) (b := (bb + 60)) (show ¬ (bb + 60 ≤ q ∧ q < (bb + 60) + 1) by omega), um_out (L := layF) (b := (bb + 61)) (show ¬ (bb + 61 ≤ q ∧ q < (bb + 61) + 29) by omega), um_out (L := layF) (b := (bb + 90)) (show ¬ (bb + 90 ≤ q ∧ q < (bb + 90) + 29) by omega), um_out (L := layF) (b := (bb + 119)) (show ¬ (bb + 119 ≤ q ∧ q < (bb + 119) + 29) by omega), um_out (L := layF) (b := (bb + 148)) (show ¬ (bb + 148 ≤ q ∧ q < (bb + 148) + 29) by omega), um_out (L := layT) (b := (bb + 177)) (show ¬ (bb + 177 ≤ q ∧ q < (bb + 177) + 6) by omega)]
theorem sy_cases (q : Nat) : (q < bb + 1 ∨ bb + 183 ≤ q) ∨ (bb + 1 ≤ q ∧ q < bb + 2) ∨ (bb + 2 ≤ q ∧ q < bb + 31) ∨ (bb + 31 ≤ q ∧ q < bb + 60) ∨ (bb + 60 ≤ q ∧ q < bb + 61) ∨ (bb + 61 ≤ q ∧ q < bb + 90) ∨ (bb + 90 ≤ q ∧ q < bb + 119) ∨ (bb + 119 ≤ q ∧ q < bb + 148) ∨ (bb + 148 ≤ q ∧ q < bb + 177) ∨ (bb + 177 ≤ q ∧ q < bb + 183) := by omega
theorem sy1_up : um layF (bb + 2) m (sy bb S M) = sy bb (us S 1 m) M := by
  funext q
  rcases sy_cases (bb := bb) q with h | h | h | h | h | h | h | h | h | h
  · rw [um_out (L := layF) (b := (bb + 2)) (show ¬ (bb + 2 ≤ q ∧ q < (bb + 2) + 29) by omega), sy_out h, sy_out h]
  · rw [um_out (L := layF) (b := (bb + 2)) (show ¬ (bb + 2 ≤ q ∧ q < (bb + 2) + 29) by omega), sy_atX h, sy_atX h]; rfl
  · rw [um_in (L := layF) (b := (bb + 2)) (show (bb + 2) ≤ q ∧ q < (bb + 2) + 29 by omega), sy_at1 h]; rfl
  · rw [um_out (L := layF) (b := (bb + 2)) (show ¬ (bb + 2 ≤ q ∧ q < (bb + 2) + 29) by omega), sy_at2 h, sy_at2 h]; rfl
  · rw [um_out (L := layF) (b := (bb + 2)) (show ¬ (bb + 2 ≤ q ∧ q < (bb + 2) + 29) by omega), sy_atQ h, sy_atQ h]; rfl
  · rw [um_out (L := layF) (b := (bb + 2)) (show ¬ (bb + 2 ≤ q ∧ q < (bb + 2) + 29) by omega), sy_at3 h, sy_at3 h]; rfl
  · rw [um_out (L := layF) (b := (bb + 2)) (show ¬ (bb + 2 ≤ q ∧ q < (bb + 2) + 29) by omega), sy_at4 h, sy_at4 h]; rfl
  · rw [um_out (L := layF) (b := (bb + 2)) (show ¬ (bb + 2 ≤ q ∧ q < (bb + 2) + 29) by omega), sy_at5 h, sy_at5 h]; rfl
  · rw [um_out (L := layF) (b := (bb + 2)) (show ¬ (bb + 2 ≤ q ∧ q < (bb + 2) + 29) by omega), sy_at6 h, sy_at6 h]; rfl
  · rw [um_out (L := layF) (b := (bb + 2)) (show ¬ (bb + 2 ≤ q ∧ q < (bb + 2) + 29) by omega), sy_at7 h, sy_at7 h]; rfl
theorem sy1_id : um layF (bb + 2) (S 1) (sy bb S M) = sy bb S M := sy1_up.trans (by rw [us_id])
theorem sy1_ev (h : E μ as (n, c, s, um layF (bb + 2) (S 1) (sy bb S M)) o (n, c, s, um layF (bb + 2) m (sy bb S M))) : E μ as (n, c, s, sy bb S M) o (n, c, s, sy bb (us S 1 m) M) := by
  rw [sy1_id, sy1_up] at h
  exact h
theorem sy1_ev0 (h : E μ as (n, c, s, um layF (bb + 2) (S 1) (sy bb S M)) o (n, c, s, um layF (bb + 2) (S 1) (sy bb S M))) : E μ as (n, c, s, sy bb S M) o (n, c, s, sy bb S M) := by
  rw [sy1_id] at h
  exact h
theorem sy1_put {q : Nat} (h : va_up (um layF (bb + 2) (S 1) (sy bb S M)) q C = um layF (bb + 2) m (sy bb S M)) : va_up (sy bb S M) q C = sy bb (us S 1 m) M := by
  rw [sy1_id, sy1_up] at h
  exact h
theorem sy1_F : sy bb S M (bb + 2) = cF (bb + 2) (S 1 0 0) := (congrFun sy1_id.symm _).trans fm_F
theorem sy1_FS : sy bb S M ((bb + 2) + 1) = cR 3 6 ((bb + 2) + 8) := (congrFun sy1_id.symm _).trans fm_fS
theorem sy1_FT : sy bb S M ((bb + 2) + 2) = cR 4 3 ((bb + 2) + 14) := (congrFun sy1_id.symm _).trans fm_fT
theorem sy1_FA : sy bb S M ((bb + 2) + 3) = cR 5 12 ((bb + 2) + 17) := (congrFun sy1_id.symm _).trans fm_fA
theorem sy1_L : sy bb S M ((bb + 2) + 4) = cG (bb + 2) (S 1 4 0) := (congrFun sy1_id.symm _).trans fm_L
theorem sy1_S (hi : i < 6) : sy bb S M ((bb + 2) + 8 + i) = cS (S 1 1 i) := (congrFun sy1_id.symm _).trans (fm_S hi)
theorem sy1_wS (hi : i < 6) (hC : C = cS (upd (S 1 1 i) k v)) : va_up (sy bb S M) ((bb + 2) + 8 + i) C = sy bb (us S 1 (up3 (S 1) 1 i k v)) M := sy1_put (fm_wS hi hC)
theorem sy1_T (hi : i < 3) : sy bb S M ((bb + 2) + 14 + i) = cT (S 1 2 i) := (congrFun sy1_id.symm _).trans (fm_T hi)
theorem sy1_wT (hi : i < 3) (hC : C = cT (upd (S 1 2 i) k v)) : va_up (sy bb S M) ((bb + 2) + 14 + i) C = sy bb (us S 1 (up3 (S 1) 2 i k v)) M := sy1_put (fm_wT hi hC)
theorem sy1_A (hi : i < 12) : sy bb S M ((bb + 2) + 17 + i) = cA (S 1 3 i) := (congrFun sy1_id.symm _).trans (fm_A hi)
theorem sy1_wA (hi : i < 12) (hC : C = cA (upd (S 1 3 i) k v)) : va_up (sy bb S M) ((bb + 2) + 17 + i) C = sy bb (us S 1 (up3 (S 1) 3 i k v)) M := sy1_put (fm_wA hi hC)
theorem sy1_wF (hC : C = cF (bb + 2) (upd (S 1 0 0) k v)) : va_up (sy bb S M) (bb + 2) C = sy bb (us S 1 (up3 (S 1) 0 0 k v)) M := sy1_put (fm_wF hC)
theorem sy2_up : um layF (bb + 31) m (sy bb S M) = sy bb (us S 2 m) M := by
  funext q
  rcases sy_cases (bb := bb) q with h | h | h | h | h | h | h | h | h | h
  · rw [um_out (L := layF) (b := (bb + 31)) (show ¬ (bb + 31 ≤ q ∧ q < (bb + 31) + 29) by omega), sy_out h, sy_out h]
  · rw [um_out (L := layF) (b := (bb + 31)) (show ¬ (bb + 31 ≤ q ∧ q < (bb + 31) + 29) by omega), sy_atX h, sy_atX h]; rfl
  · rw [um_out (L := layF) (b := (bb + 31)) (show ¬ (bb + 31 ≤ q ∧ q < (bb + 31) + 29) by omega), sy_at1 h, sy_at1 h]; rfl
  · rw [um_in (L := layF) (b := (bb + 31)) (show (bb + 31) ≤ q ∧ q < (bb + 31) + 29 by omega), sy_at2 h]; rfl
  · rw [um_out (L := layF) (b := (bb + 31)) (show ¬ (bb + 31 ≤ q ∧ q < (bb + 31) + 29) by omega), sy_atQ h, sy_atQ h]; rfl
  · rw [um_out (L := layF) (b := (bb + 31)) (show ¬ (bb + 31 ≤ q ∧ q < (bb + 31) + 29) by omega), sy_at3 h, sy_at3 h]; rfl
  · rw [um_out (L := layF) (b := (bb + 31)) (show ¬ (bb + 31 ≤ q ∧ q < (bb + 31) + 29) by omega), sy_at4 h, sy_at4 h]; rfl
  · rw [um_out (L := layF) (b := (bb + 31)) (show ¬ (bb + 31 ≤ q ∧ q < (bb + 31) + 29) by omega), sy_at5 h, sy_at5 h]; rfl
  · rw [um_out (L := layF) (b := (bb + 31)) (show ¬ (bb + 31 ≤ q ∧ q < (bb + 31) + 29) by omega), sy_at6 h, sy_at6 h]; rfl
  · rw [um_out (L := layF) (b := (bb + 31)) (show ¬ (bb + 31 ≤ q ∧ q < (bb + 31) + 29) by omega), sy_at7 h, sy_at7 h]; rfl
theorem sy2_id : um layF (bb + 31) (S 2) (sy bb S M) = sy bb S M := sy2_up.trans (by rw [us_id])
theorem sy2_ev (h : E μ as (n, c, s, um layF (bb + 31) (S 2) (sy bb S M)) o (n, c, s, um layF (bb + 31) m (sy bb S M))) : E μ as (n, c, s, sy bb S M) o (n, c, s, sy bb (us S 2 m) M) := by
  rw [sy2_id, sy2_up] at h
  exact h
theorem sy2_ev0 (h : E μ as (n, c, s, um layF (bb + 31) (S 2) (sy bb S M)) o (n, c, s, um layF (bb + 31) (S 2) (sy bb S M))) : E μ as (n, c, s, sy bb S M) o (n, c, s, sy bb S M) := by
  rw [sy2_id] at h
  exact h
theorem sy2_put {q : Nat} (h : va_up (um layF (bb + 31) (S 2) (sy bb S M)) q C = um layF (bb + 31) m (sy bb S M)) : va_up (sy bb S M) q C = sy bb (us S 2 m) M := by
  rw [sy2_id, sy2_up] at h
  exact h
theorem sy2_F : sy bb S M (bb + 31) = cF (bb + 31) (S 2 0 0) := (congrFun sy2_id.symm _).trans fm_F
theorem sy2_FS : sy bb S M ((bb + 31) + 1) = cR 3 6 ((bb + 31) + 8) := (congrFun sy2_id.symm _).trans fm_fS
theorem sy2_FT : sy bb S M ((bb + 31) + 2) = cR 4 3 ((bb + 31) + 14) := (congrFun sy2_id.symm _).trans fm_fT
theorem sy2_FA : sy bb S M ((bb + 31) + 3) = cR 5 12 ((bb + 31) + 17) := (congrFun sy2_id.symm _).trans fm_fA
theorem sy2_L : sy bb S M ((bb + 31) + 4) = cG (bb + 31) (S 2 4 0) := (congrFun sy2_id.symm _).trans fm_L
theorem sy2_S (hi : i < 6) : sy bb S M ((bb + 31) + 8 + i) = cS (S 2 1 i) := (congrFun sy2_id.symm _).trans (fm_S hi)
theorem sy2_wS (hi : i < 6) (hC : C = cS (upd (S 2 1 i) k v)) : va_up (sy bb S M) ((bb + 31) + 8 + i) C = sy bb (us S 2 (up3 (S 2) 1 i k v)) M := sy2_put (fm_wS hi hC)
theorem sy2_T (hi : i < 3) : sy bb S M ((bb + 31) + 14 + i) = cT (S 2 2 i) := (congrFun sy2_id.symm _).trans (fm_T hi)
theorem sy2_wT (hi : i < 3) (hC : C = cT (upd (S 2 2 i) k v)) : va_up (sy bb S M) ((bb + 31) + 14 + i) C = sy bb (us S 2 (up3 (S 2) 2 i k v)) M := sy2_put (fm_wT hi hC)
theorem sy2_A (hi : i < 12) : sy bb S M ((bb + 31) + 17 + i) = cA (S 2 3 i) := (congrFun sy2_id.symm _).trans (fm_A hi)
theorem sy2_wA (hi : i < 12) (hC : C = cA (upd (S 2 3 i) k v)) : va_up (sy bb S M) ((bb + 31) + 17 + i) C = sy bb (us S 2 (up3 (S 2) 3 i k v)) M := sy2_put (fm_wA hi hC)
theorem sy2_wF (hC : C = cF (bb + 31) (upd (S 2 0 0) k v)) : va_up (sy bb S M) (bb + 31) C = sy bb (us S 2 (up3 (S 2) 0 0 k v)) M := sy2_put (fm_wF hC)
theorem sy3_up : um layF (bb + 61) m (sy bb S M) = sy bb (us S 3 m) M := by
  funext q
  rcases sy_cases (bb := bb) q with h | h | h | h | h | h | h | h | h | h
  · rw [um_out (L := layF) (b := (bb + 61)) (show ¬ (bb + 61 ≤ q ∧ q < (bb + 61) + 29) by omega), sy_out h, sy_out h]
  · rw [um_out (L := layF) (b := (bb + 61)) (show ¬ (bb + 61 ≤ q ∧ q < (bb + 61) + 29) by omega), sy_atX h, sy_atX h]; rfl
  · rw [um_out (L := layF) (b := (bb + 61)) (show ¬ (bb + 61 ≤ q ∧ q < (bb + 61) + 29) by omega), sy_at1 h, sy_at1 h]; rfl
  · rw [um_out (L := layF) (b := (bb + 61)) (show ¬ (bb + 61 ≤ q ∧ q < (bb + 61) + 29) by omega), sy_at2 h, sy_at2 h]; rfl
  · rw [um_out (L := layF) (b := (bb + 61)) (show ¬ (bb + 61 ≤ q ∧ q < (bb + 61) + 29) by omega), sy_atQ h, sy_atQ h]; rfl
  · rw [um_in (L := layF) (b := (bb + 61)) (show (bb + 61) ≤ q ∧ q < (bb + 61) + 29 by omega), sy_at3 h]; rfl
  · rw [um_out (L := layF) (b := (bb + 61)) (show ¬ (bb + 61 ≤ q ∧ q < (bb + 61) + 29) by omega), sy_at4 h, sy_at4 h]; rfl
  · rw [um_out (L := layF) (b := (bb + 61)) (show ¬ (bb + 61 ≤ q ∧ q < (bb + 61) + 29) by omega), sy_at5 h, sy_at5 h]; rfl
  · rw [um_out (L := layF) (b := (bb + 61)) (show ¬ (bb + 61 ≤ q ∧ q < (bb + 61) + 29) by omega), sy_at6 h, sy_at6 h]; rfl
  · rw [um_out (L := layF) (b := (bb + 61)) (show ¬ (bb + 61 ≤ q ∧ q < (bb + 61) + 29) by omega), sy_at7 h, sy_at7 h]; rfl
theorem sy3_id : um layF (bb + 61) (S 3) (sy bb S M) = sy bb S M := sy3_up.trans (by rw [us_id])
theorem sy3_ev (h : E μ as (n, c, s, um layF (bb + 61) (S 3) (sy bb S M)) o (n, c, s, um layF (bb + 61) m (sy bb S M))) : E μ as (n, c, s, sy bb S M) o (n, c, s, sy bb (us S 3 m) M) := by
  rw [sy3_id, sy3_up] at h
  exact h
theorem sy3_ev0 (h : E μ as (n, c, s, um layF (bb + 61) (S 3) (sy bb S M)) o (n, c, s, um layF (bb + 61) (S 3) (sy bb S M))) : E μ as (n, c, s, sy bb S M) o (n, c, s, sy bb S M) := by
  rw [sy3_id] at h
  exact h
theorem sy3_put {q : Nat} (h : va_up (um layF (bb + 61) (S 3) (sy bb S M)) q C = um layF (bb + 61) m (sy bb S M)) : va_up (sy bb S M) q C = sy bb (us S 3 m) M := by
  rw [sy3_id, sy3_up] at h
  exact h
theorem sy4_up : um layF (bb + 90) m (sy bb S M) = sy bb (us S 4 m) M := by
  funext q
  rcases sy_cases (bb := bb) q with h | h | h | h | h | h | h | h | h | h
  · rw [um_out (L := layF) (b := (bb + 90)) (show ¬ (bb + 90 ≤ q ∧ q < (bb + 90) + 29) by omega), sy_out h, sy_out h]
  · rw [um_out (L := layF) (b := (bb + 90)) (show ¬ (bb + 90 ≤ q ∧ q < (bb + 90) + 29) by omega), sy_atX h, sy_atX h]; rfl
  · rw [um_out (L := layF) (b := (bb + 90)) (show ¬ (bb + 90 ≤ q ∧ q < (bb + 90) + 29) by omega), sy_at1 h, sy_at1 h]; rfl
  · rw [um_out (L := layF) (b := (bb + 90)) (show ¬ (bb + 90 ≤ q ∧ q < (bb + 90) + 29) by omega), sy_at2 h, sy_at2 h]; rfl
  · rw [um_out (L := layF) (b := (bb + 90)) (show ¬ (bb + 90 ≤ q ∧ q < (bb + 90) + 29) by omega), sy_atQ h, sy_atQ h]; rfl
  · rw [um_out (L := layF) (b := (bb + 90)) (show ¬ (bb + 90 ≤ q ∧ q < (bb + 90) + 29) by omega), sy_at3 h, sy_at3 h]; rfl
  · rw [um_in (L := layF) (b := (bb + 90)) (show (bb + 90) ≤ q ∧ q < (bb + 90) + 29 by omega), sy_at4 h]; rfl
  · rw [um_out (L := layF) (b := (bb + 90)) (show ¬ (bb + 90 ≤ q ∧ q < (bb + 90) + 29) by omega), sy_at5 h, sy_at5 h]; rfl
  · rw [um_out (L := layF) (b := (bb + 90)) (show ¬ (bb + 90 ≤ q ∧ q < (bb + 90) + 29) by omega), sy_at6 h, sy_at6 h]; rfl
  · rw [um_out (L := layF) (b := (bb + 90)) (show ¬ (bb + 90 ≤ q ∧ q < (bb + 90) + 29) by omega), sy_at7 h, sy_at7 h]; rfl
theorem sy4_id : um layF (bb + 90) (S 4) (sy bb S M) = sy bb S M := sy4_up.trans (by rw [us_id])
theorem sy4_ev (h : E μ as (n, c, s, um layF (bb + 90) (S 4) (sy bb S M)) o (n, c, s, um layF (bb + 90) m (sy bb S M))) : E μ as (n, c, s, sy bb S M) o (n, c, s, sy bb (us S 4 m) M) := by
  rw [sy4_id, sy4_up] at h
  exact h
theorem sy4_ev0 (h : E μ as (n, c, s, um layF (bb + 90) (S 4) (sy bb S M)) o (n, c, s, um layF (bb + 90) (S 4) (sy bb S M))) : E μ as (n, c, s, sy bb S M) o (n, c, s, sy bb S M) := by
  rw [sy4_id] at h
  exact h
theorem sy4_put {q : Nat} (h : va_up (um layF (bb + 90) (S 4) (sy bb S M)) q C = um layF (bb + 90) m (sy bb S M)) : va_up (sy bb S M) q C = sy bb (us S 4 m) M := by
  rw [sy4_id, sy4_up] at h
  exact h
theorem sy5_up : um layF (bb + 119) m (sy bb S M) = sy bb (us S 5 m) M := by
  funext q
  rcases sy_cases (bb := bb) q with h | h | h | h | h | h | h | h | h | h
  · rw [um_out (L := layF) (b := (bb + 119)) (show ¬ (bb + 119 ≤ q ∧ q < (bb + 119) + 29) by omega), sy_out h, sy_out h]
  · rw [um_out (L := layF) (b := (bb + 119)) (show ¬ (bb + 119 ≤ q ∧ q < (bb + 119) + 29) by omega), sy_atX h, sy_atX h]; rfl
  · rw [um_out (L := layF) (b := (bb + 119)) (show ¬ (bb + 119 ≤ q ∧ q < (bb + 119) + 29) by omega), sy_at1 h, sy_at1 h]; rfl
  · rw [um_out (L := layF) (b := (bb + 119)) (show ¬ (bb + 119 ≤ q ∧ q < (bb + 119) + 29) by omega), sy_at2 h, sy_at2 h]; rfl
  · rw [um_out (L := layF) (b := (bb + 119)) (show ¬ (bb + 119 ≤ q ∧ q < (bb + 119) + 29) by omega), sy_atQ h, sy_atQ h]; rfl
  · rw [um_out (L := layF) (b := (bb + 119)) (show ¬ (bb + 119 ≤ q ∧ q < (bb + 119) + 29) by omega), sy_at3 h, sy_at3 h]; rfl
  · rw [um_out (L := layF) (b := (bb + 119)) (show ¬ (bb + 119 ≤ q ∧ q < (bb + 119) + 29) by omega), sy_at4 h, sy_at4 h]; rfl
  · rw [um_in (L := layF) (b := (bb + 119)) (show (bb + 119) ≤ q ∧ q < (bb + 119) + 29 by omega), sy_at5 h]; rfl
  · rw [um_out (L := layF) (b := (bb + 119)) (show ¬ (bb + 119 ≤ q ∧ q < (bb + 119) + 29) by omega), sy_at6 h, sy_at6 h]; rfl
  · rw [um_out (L := layF) (b := (bb + 119)) (show ¬ (bb + 119 ≤ q ∧ q < (bb + 119) + 29) by omega), sy_at7 h, sy_at7 h]; rfl
theorem sy5_id : um layF (bb + 119) (S 5) (sy bb S M) = sy bb S M := sy5_up.trans (by rw [us_id])
theorem sy5_ev (h : E μ as (n, c, s, um layF (bb + 119) (S 5) (sy bb S M)) o (n, c, s, um layF (bb + 119) m (sy bb S M))) : E μ as (n, c, s, sy bb S M) o (n, c, s, sy bb (us S 5 m) M) := by
  rw [sy5_id, sy5_up] at h
  exact h
theorem sy5_ev0 (h : E μ as (n, c, s, um layF (bb + 119) (S 5) (sy bb S M)) o (n, c, s, um layF (bb + 119) (S 5) (sy bb S M))) : E μ as (n, c, s, sy bb S M) o (n, c, s, sy bb S M) := by
  rw [sy5_id] at h
  exact h
theorem sy5_put {q : Nat} (h : va_up (um layF (bb + 119) (S 5) (sy bb S M)) q C = um layF (bb + 119) m (sy bb S M)) : va_up (sy bb S M) q C = sy bb (us S 5 m) M := by
  rw [sy5_id, sy5_up] at h
  exact h
theorem sy6_up : um layF (bb + 148) m (sy bb S M) = sy bb (us S 6 m) M := by
  funext q
  rcases sy_cases (bb := bb) q with h | h | h | h | h | h | h | h | h | h
  · rw [um_out (L := layF) (b := (bb + 148)) (show ¬ (bb + 148 ≤ q ∧ q < (bb + 148) + 29) by omega), sy_out h, sy_out h]
  · rw [um_out (L := layF) (b := (bb + 148)) (show ¬ (bb + 148 ≤ q ∧ q < (bb + 148) + 29) by omega), sy_atX h, sy_atX h]; rfl
  · rw [um_out (L := layF) (b := (bb + 148)) (show ¬ (bb + 148 ≤ q ∧ q < (bb + 148) + 29) by omega), sy_at1 h, sy_at1 h]; rfl
  · rw [um_out (L := layF) (b := (bb + 148)) (show ¬ (bb + 148 ≤ q ∧ q < (bb + 148) + 29) by omega), sy_at2 h, sy_at2 h]; rfl
  · rw [um_out (L := layF) (b := (bb + 148)) (show ¬ (bb + 148 ≤ q ∧ q < (bb + 148) + 29) by omega), sy_atQ h, sy_atQ h]; rfl
  · rw [um_out (L := layF) (b := (bb + 148)) (show ¬ (bb + 148 ≤ q ∧ q < (bb + 148) + 29) by omega), sy_at3 h, sy_at3 h]; rfl
  · rw [um_out (L := layF) (b := (bb + 148)) (show ¬ (bb + 148 ≤ q ∧ q < (bb + 148) + 29) by omega), sy_at4 h, sy_at4 h]; rfl
  · rw [um_out (L := layF) (b := (bb + 148)) (show ¬ (bb + 148 ≤ q ∧ q < (bb + 148) + 29) by omega), sy_at5 h, sy_at5 h]; rfl
  · rw [um_in (L := layF) (b := (bb + 148)) (show (bb + 148) ≤ q ∧ q < (bb + 148) + 29 by omega), sy_at6 h]; rfl
  · rw [um_out (L := layF) (b := (bb + 148)) (show ¬ (bb + 148 ≤ q ∧ q < (bb + 148) + 29) by omega), sy_at7 h, sy_at7 h]; rfl
theorem sy6_id : um layF (bb + 148) (S 6) (sy bb S M) = sy bb S M := sy6_up.trans (by rw [us_id])
theorem sy6_ev (h : E μ as (n, c, s, um layF (bb + 148) (S 6) (sy bb S M)) o (n, c, s, um layF (bb + 148) m (sy bb S M))) : E μ as (n, c, s, sy bb S M) o (n, c, s, sy bb (us S 6 m) M) := by
  rw [sy6_id, sy6_up] at h
  exact h
theorem sy6_ev0 (h : E μ as (n, c, s, um layF (bb + 148) (S 6) (sy bb S M)) o (n, c, s, um layF (bb + 148) (S 6) (sy bb S M))) : E μ as (n, c, s, sy bb S M) o (n, c, s, sy bb S M) := by
  rw [sy6_id] at h
  exact h
theorem sy6_put {q : Nat} (h : va_up (um layF (bb + 148) (S 6) (sy bb S M)) q C = um layF (bb + 148) m (sy bb S M)) : va_up (sy bb S M) q C = sy bb (us S 6 m) M := by
  rw [sy6_id, sy6_up] at h
  exact h
theorem sy7_up : um layT (bb + 177) m (sy bb S M) = sy bb (us S 7 m) M := by
  funext q
  rcases sy_cases (bb := bb) q with h | h | h | h | h | h | h | h | h | h
  · rw [um_out (L := layT) (b := (bb + 177)) (show ¬ (bb + 177 ≤ q ∧ q < (bb + 177) + 6) by omega), sy_out h, sy_out h]
  · rw [um_out (L := layT) (b := (bb + 177)) (show ¬ (bb + 177 ≤ q ∧ q < (bb + 177) + 6) by omega), sy_atX h, sy_atX h]; rfl
  · rw [um_out (L := layT) (b := (bb + 177)) (show ¬ (bb + 177 ≤ q ∧ q < (bb + 177) + 6) by omega), sy_at1 h, sy_at1 h]; rfl
  · rw [um_out (L := layT) (b := (bb + 177)) (show ¬ (bb + 177 ≤ q ∧ q < (bb + 177) + 6) by omega), sy_at2 h, sy_at2 h]; rfl
  · rw [um_out (L := layT) (b := (bb + 177)) (show ¬ (bb + 177 ≤ q ∧ q < (bb + 177) + 6) by omega), sy_atQ h, sy_atQ h]; rfl
  · rw [um_out (L := layT) (b := (bb + 177)) (show ¬ (bb + 177 ≤ q ∧ q < (bb + 177) + 6) by omega), sy_at3 h, sy_at3 h]; rfl
  · rw [um_out (L := layT) (b := (bb + 177)) (show ¬ (bb + 177 ≤ q ∧ q < (bb + 177) + 6) by omega), sy_at4 h, sy_at4 h]; rfl
  · rw [um_out (L := layT) (b := (bb + 177)) (show ¬ (bb + 177 ≤ q ∧ q < (bb + 177) + 6) by omega), sy_at5 h, sy_at5 h]; rfl
  · rw [um_out (L := layT) (b := (bb + 177)) (show ¬ (bb + 177 ≤ q ∧ q < (bb + 177) + 6) by omega), sy_at6 h, sy_at6 h]; rfl
  · rw [um_in (L := layT) (b := (bb + 177)) (show (bb + 177) ≤ q ∧ q < (bb + 177) + 6 by omega), sy_at7 h]; rfl
theorem sy7_id : um layT (bb + 177) (S 7) (sy bb S M) = sy bb S M := sy7_up.trans (by rw [us_id])
theorem sy7_ev (h : E μ as (n, c, s, um layT (bb + 177) (S 7) (sy bb S M)) o (n, c, s, um layT (bb + 177) m (sy bb S M))) : E μ as (n, c, s, sy bb S M) o (n, c, s, sy bb (us S 7 m) M) := by
  rw [sy7_id, sy7_up] at h
  exact h
theorem sy7_ev0 (h : E μ as (n, c, s, um layT (bb + 177) (S 7) (sy bb S M)) o (n, c, s, um layT (bb + 177) (S 7) (sy bb S M))) : E μ as (n, c, s, sy bb S M) o (n, c, s, sy bb S M) := by
  rw [sy7_id] at h
  exact h
theorem sy7_put {q : Nat} (h : va_up (um layT (bb + 177) (S 7) (sy bb S M)) q C = um layT (bb + 177) m (sy bb S M)) : va_up (sy bb S M) q C = sy bb (us S 7 m) M := by
  rw [sy7_id, sy7_up] at h
  exact h
theorem sy7_T : sy bb S M (bb + 177) = cTT (bb + 177) (S 7 0 0) := (congrFun sy7_id.symm _).trans tm_T
theorem sy7_1 : sy bb S M (bb + 177 + 1) = cI 90 (S 7 1 0) := (congrFun sy7_id.symm _).trans tm_1
theorem sy7_2 : sy bb S M (bb + 177 + 2) = cI 12 (S 7 2 0) := (congrFun sy7_id.symm _).trans tm_2
theorem sy7_3 : sy bb S M (bb + 177 + 3) = cI 12 (S 7 3 0) := (congrFun sy7_id.symm _).trans tm_3
theorem sy7_4 : sy bb S M (bb + 177 + 4) = cI 12 (S 7 4 0) := (congrFun sy7_id.symm _).trans tm_4
theorem sy7_5 : sy bb S M (bb + 177 + 5) = cI 12 (S 7 5 0) := (congrFun sy7_id.symm _).trans tm_5
theorem sy7_wT (hC : C = cTT (bb + 177) (upd (S 7 0 0) k v)) : va_up (sy bb S M) (bb + 177) C = sy bb (us S 7 (up3 (S 7) 0 0 k v)) M := sy7_put (tm_wT hC)
theorem sy_X : sy bb S M (bb + 1) = cX bb (S 0 0 0) := sy_atX (by omega)
theorem sy_Q : sy bb S M (bb + 60) = cQ bb (S 0 1 0) := sy_atQ (by omega)
theorem sy_wX (hC : C = cX bb (upd (S 0 0 0) k v)) : va_up (sy bb S M) (bb + 1) C = sy bb (us S 0 (up3 (S 0) 0 0 k v)) M := by
  funext q
  rcases sy_cases (bb := bb) q with h | h | h | h | h | h | h | h | h | h
  · rw [va_up_ne _ _ (by omega), sy_out h, sy_out h]
  · have e : q = (bb + 1) := by omega
    subst e
    rw [va_up_self, sy_atX h, hC]
    show cX bb _ = cX bb (up3 (S 0) 0 0 k v 0 0)
    rw [up3_row]
  · rw [va_up_ne _ _ (by omega), sy_at1 h, sy_at1 h]; rfl
  · rw [va_up_ne _ _ (by omega), sy_at2 h, sy_at2 h]; rfl
  · rw [va_up_ne _ _ (by omega), sy_atQ h, sy_atQ h]
    show (layQ bb).2.1 _ _ (S 0 1 0) = (layQ bb).2.1 _ _ (up3 (S 0) 0 0 k v 1 0)
    rw [up3_rows (by omega)]
  · rw [va_up_ne _ _ (by omega), sy_at3 h, sy_at3 h]; rfl
  · rw [va_up_ne _ _ (by omega), sy_at4 h, sy_at4 h]; rfl
  · rw [va_up_ne _ _ (by omega), sy_at5 h, sy_at5 h]; rfl
  · rw [va_up_ne _ _ (by omega), sy_at6 h, sy_at6 h]; rfl
  · rw [va_up_ne _ _ (by omega), sy_at7 h, sy_at7 h]; rfl
theorem sy_wQ (hC : C = cQ bb (upd (S 0 1 0) k v)) : va_up (sy bb S M) (bb + 60) C = sy bb (us S 0 (up3 (S 0) 1 0 k v)) M := by
  funext q
  rcases sy_cases (bb := bb) q with h | h | h | h | h | h | h | h | h | h
  · rw [va_up_ne _ _ (by omega), sy_out h, sy_out h]
  · rw [va_up_ne _ _ (by omega), sy_atX h, sy_atX h]
    show (layX bb).2.1 _ _ (S 0 0 0) = (layX bb).2.1 _ _ (up3 (S 0) 1 0 k v 0 0)
    rw [up3_rows (by omega)]
  · rw [va_up_ne _ _ (by omega), sy_at1 h, sy_at1 h]; rfl
  · rw [va_up_ne _ _ (by omega), sy_at2 h, sy_at2 h]; rfl
  · have e : q = (bb + 60) := by omega
    subst e
    rw [va_up_self, sy_atQ h, hC]
    show cQ bb _ = cQ bb (up3 (S 0) 1 0 k v 1 0)
    rw [up3_row]
  · rw [va_up_ne _ _ (by omega), sy_at3 h, sy_at3 h]; rfl
  · rw [va_up_ne _ _ (by omega), sy_at4 h, sy_at4 h]; rfl
  · rw [va_up_ne _ _ (by omega), sy_at5 h, sy_at5 h]; rfl
  · rw [va_up_ne _ _ (by omega), sy_at6 h, sy_at6 h]; rfl
  · rw [va_up_ne _ _ (by omega), sy_at7 h, sy_at7 h]; rfl
/-- the saved field of number p -/
theorem syp_up {p : Nat} (hp : p < 4) : fm (bb + 61 + 29 * p) m (sy bb S M) = sy bb (us S (3 + p) m) M := by
  match p, hp with
  | 0, _ => exact sy3_up
  | 1, _ => exact sy4_up
  | 2, _ => exact sy5_up
  | 3, _ => exact sy6_up
theorem syp_id {p : Nat} (hp : p < 4) : fm (bb + 61 + 29 * p) (S (3 + p)) (sy bb S M) = sy bb S M := (syp_up hp).trans (by rw [us_id])
theorem syp_ev {p : Nat} (hp : p < 4) (h : E μ as (n, c, s, fm (bb + 61 + 29 * p) (S (3 + p)) (sy bb S M)) o (n, c, s, fm (bb + 61 + 29 * p) m (sy bb S M))) : E μ as (n, c, s, sy bb S M) o (n, c, s, sy bb (us S (3 + p) m) M) := by
  rw [syp_id hp, syp_up hp] at h
  exact h
theorem syp_F {p : Nat} (hp : p < 4) : sy bb S M (bb + 61 + 29 * p) = cF (bb + 61 + 29 * p) (S (3 + p) 0 0) := (congrFun (syp_id hp).symm _).trans fm_F
theorem of_fm {b : Nat} {m : Mem} {M : JM} (h : fm b m M = M) (b2 : Nat) (hb : b + 29 ≤ b2 ∨ b2 + 29 ≤ b) : OF b2 b m M := ⟨hb, fun r hr => (congrFun h.symm _).trans (um_rd (L := layF) hr)⟩
theorem sy_21 : OF (bb + 31) (bb + 2) (S 1) (sy bb S M) := of_fm sy1_id (bb + 31) (by omega)
theorem syp_1 {p : Nat} : OF (bb + 61 + 29 * p) (bb + 2) (S 1) (sy bb S M) := of_fm sy1_id _ (by omega)
theorem sy1_p {p : Nat} (hp : p < 4) : OF (bb + 2) (bb + 61 + 29 * p) (S (3 + p)) (sy bb S M) := of_fm (syp_id hp) (bb + 2) (by omega)
end SYS
/-! a call's end: an answer, or an exception -/
def jO (r : Int32 ⊕ String) : JO := match r with
  | .inl v => .inl (some (.int v))
  | .inr E => .inr E
def jH (r : Int32 ⊕ String) (h h1 : JH) : JH := match r with
  | .inl _ => h1
  | .inr _ => jbump h
theorem jv_mkS {d μ : Nat} {m : JM5} {cd : List (Nat × JA)} {as : List Value} {h h1 : JH} {r : Int32 ⊕ String} (hm : mtab μ = m) (hc : mcode μ = cd) (hn : (lg_sl as).length ≤ m.2.2.1) (hv : ∀ v : Int32, jrv m.2.2.2.1 (some (.int v))) (hd : 6 ≤ d + 1) (hh : m.2.2.2.2 = none) (hJ : JV (Ev mtab mcode d) cd (0, lv_args 0 as, []) h (jO r) (jH r h h1)) : Ev mtab mcode (d + 1) μ as h (jO r) (jH r h h1) := by
  cases r with
  | inl v => exact jv_mk hm hc hn (hv v) hJ
  | inr E => exact jv_mkX hm hc hn hd hh hJ
/-! what holds of the whole memory between calls -/
def SK (B : Nat) (S : Sys) : Prop := VN 4 (S 0 0 0 0) ∧ (∀ i, i < 4 → VN 3 (S 0 1 0 i)) ∧ (∀ u, 1 ≤ u → u ≤ 6 → FK (S u) ∧ VN B (S u 4 0 0)) ∧ VN 90 (S 7 0 0 0)
theorem SK.f1 {B : Nat} {S : Sys} (h : SK B S) : FK (S 1) := (h.2.2.1 1 (by decide) (by decide)).1
theorem SK.f2 {B : Nat} {S : Sys} (h : SK B S) : FK (S 2) := (h.2.2.1 2 (by decide) (by decide)).1
theorem SK.w1 {B : Nat} {S : Sys} (h : SK B S) : FW B (S 1) (S 1) := ⟨h.f1, (h.2.2.1 1 (by decide) (by decide)).2, fun _ _ => rfl⟩
theorem SK.w2 {B : Nat} {S : Sys} (h : SK B S) : FW B (S 2) (S 2) := ⟨h.f2, (h.2.2.1 2 (by decide) (by decide)).2, fun _ _ => rfl⟩
theorem SK.mono {B B' : Nat} {S : Sys} (h : SK B S) (hb : B ≤ B') : SK B' S := ⟨h.1, h.2.1, fun u h1 h6 => ⟨(h.2.2.1 u h1 h6).1, (h.2.2.1 u h1 h6).2.1, Nat.le_trans (h.2.2.1 u h1 h6).2.2 hb⟩, h.2.2.2⟩
theorem sk_us {B u : Nat} {S : Sys} {m : Mem} (h : SK B S) (h1 : 1 ≤ u) (h6 : u ≤ 6) (hm : FK m) (hv : VN B (m 4 0 0)) : SK B (us S u m) := by
  refine ⟨?_, ?_, fun w w1 w6 => ?_, ?_⟩
  · rw [us_ne (by omega)]; exact h.1
  · rw [us_ne (by omega)]; exact h.2.1
  · by_cases e : w = u
    · subst e
      rw [us_same]
      exact ⟨hm, hv⟩
    · rw [us_ne e]
      exact h.2.2.1 w w1 w6
  · rw [us_ne (by omega)]; exact h.2.2.2

