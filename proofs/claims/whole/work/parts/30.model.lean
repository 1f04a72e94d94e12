/-! ===== the reference: its cells, its small methods, its nights ===== -/
abbrev Pm : Type := PA × PA × PA × PA × PA × (Nat → Int64) × PA × Int32
abbrev qH (q : Pm) : PA := q.1
abbrev qK (q : Pm) : PA := q.2.1
abbrev qF (q : Pm) : PA := q.2.2.1
abbrev qS (q : Pm) : PA := q.2.2.2.1
abbrev qM (q : Pm) : PA := q.2.2.2.2.1
abbrev qR (q : Pm) : Nat → Int64 := q.2.2.2.2.2.1
abbrev qI (q : Pm) : PA := q.2.2.2.2.2.2.1
abbrev qB (q : Pm) : Int32 := q.2.2.2.2.2.2.2
abbrev Tm : Type := Int32 × Int32 × Int32 × Int32 × Int32 × Int32 × Int32 × PA × PA × PA × PA × Int32 × Int32 × Option Nat × PA × PA × PA × Int32 × (Nat → Int64)
abbrev tSy (t : Tm) : Int32 := t.1
abbrev tMr (t : Tm) : Int32 := t.2.1
abbrev tTh (t : Tm) : Int32 := t.2.2.1
abbrev tRd (t : Tm) : Int32 := t.2.2.2.1
abbrev tPl (t : Tm) : Int32 := t.2.2.2.2.1
abbrev tBd (t : Tm) : Int32 := t.2.2.2.2.2.1
abbrev tSt (t : Tm) : Int32 := t.2.2.2.2.2.2.1
abbrev tPi (t : Tm) : PA := t.2.2.2.2.2.2.2.1
abbrev tLo (t : Tm) : PA := t.2.2.2.2.2.2.2.2.1
abbrev tTo (t : Tm) : PA := t.2.2.2.2.2.2.2.2.2.1
abbrev tKe (t : Tm) : PA := t.2.2.2.2.2.2.2.2.2.2.1
abbrev tP0 (t : Tm) : Int32 := t.2.2.2.2.2.2.2.2.2.2.2.1
abbrev tTk (t : Tm) : Int32 := t.2.2.2.2.2.2.2.2.2.2.2.2.1
abbrev tKi (t : Tm) : Option Nat := t.2.2.2.2.2.2.2.2.2.2.2.2.2.1
abbrev tDr (t : Tm) : PA := t.2.2.2.2.2.2.2.2.2.2.2.2.2.2.1
abbrev tCe (t : Tm) : PA := t.2.2.2.2.2.2.2.2.2.2.2.2.2.2.2.1
abbrev tGa (t : Tm) : PA := t.2.2.2.2.2.2.2.2.2.2.2.2.2.2.2.2.1
abbrev tSd (t : Tm) : Int32 := t.2.2.2.2.2.2.2.2.2.2.2.2.2.2.2.2.2.1
abbrev tBt (t : Tm) : Nat → Int64 := t.2.2.2.2.2.2.2.2.2.2.2.2.2.2.2.2.2.2
def modX (s : InnS) (hw kk kf rs rm : PA) (rows : Nat → Int64) (im : PA) (hb : Int32) (sy mr th rd pl bd st : Int32) (pi lo to ke : PA) (p0 tk : Int32) (ki : Option Nat) (dr ce ga : PA) (sd : Int32) (bt : Nat → Int64) : List sc := [oC 4 [sR 1, sI (iG s), sR 2, sR 3, sR 4, sR 5, sR 6, sI (iT s), sI (iS s), sI (iA s), sI (iN s), sI sy, sI mr, sR 7, sR 8, sR 9, sR 10, sR 11, sR 12, sI th, sI (iSn s), sI rd, sI pl, sI bd, sI st, sR 13, sR 14, sR 15, sR 16, sR 17, sI hb, sI p0, sI tk, .inr (.inr ki), sR 18, sR 19, sR 20, sI sd, sR 21],
  aI 10 (iP s), aI 7 (iK s), aI 7 (iF s), aI 7 (iW s), aI 7 (iL s), aI 7 (iH s), aI 8 hw, aI 8 kk, aI 8 kf, aI 8 rs, aI 8 rm, aL 800 rows, aI 51 pi, aI 51 lo, aI 153 to, aI 50 ke, aI 50 im, aI 7 dr, aZ 1024 ce, aI 8 ga, aL 100 bt]
abbrev modW (s : InnS) (q : Pm) (t : Tm) : List sc := modX s (qH q) (qK q) (qF q) (qS q) (qM q) (qR q) (qI q) (qB q) (tSy t) (tMr t) (tTh t) (tRd t) (tPl t) (tBd t) (tSt t) (tPi t) (tLo t) (tTo t) (tKe t) (tP0 t) (tTk t) (tKi t) (tDr t) (tCe t) (tGa t) (tSd t) (tBt t)
theorem lg_lt (x y : Int64) : lg_cmp x y < 0 ↔ x < y := by
  unfold lg_cmp
  by_cases h1 : x > y
  · rw [if_pos h1]
    exact ⟨fun h => absurd h (by decide), fun h => absurd h (Int64.not_lt.mpr (Int64.le_of_lt h1))⟩
  · rw [if_neg h1]
    by_cases h2 : x = y
    · rw [if_pos h2]
      exact ⟨fun h => absurd h (by decide), fun h => absurd h (by rw [h2]; exact Int64.lt_irrefl)⟩
    · rw [if_neg h2]
      exact ⟨fun _ => Int64.lt_of_le_of_ne (Int64.not_lt.mp h1) h2, fun _ => by decide⟩
theorem lg_gt (x y : Int64) : 0 < lg_cmp x y ↔ y < x := by
  unfold lg_cmp
  by_cases h1 : x > y
  · rw [if_pos h1]
    exact ⟨fun _ => h1, fun _ => by decide⟩
  · rw [if_neg h1]
    by_cases h2 : x = y
    · rw [if_pos h2]
      exact ⟨fun h => absurd h (by decide), fun h => absurd h h1⟩
    · rw [if_neg h2]
      exact ⟨fun h => absurd h (by decide), fun h => absurd h h1⟩
theorem w_le (a b : Int32) : a.toInt64 ≤ b.toInt64 ↔ a ≤ b := by
  rw [Int64.le_iff_toInt_le, Int32.le_iff_toInt_le, Int32.toInt_toInt64, Int32.toInt_toInt64]
def F_X6_in : Fn := fun as w K => match as with
  | [.inr (.inl v), .inr (.inl lo), .inr (.inl hi)] => K (some (.inl (bp (lo ≤ v ∧ v ≤ hi)))) w
  | _ => False
def ctb_X6_in : List (Nat × (List sv → List sc → (List sv → List sc → Prop) → Prop)) := []
theorem cok_X6_in : CallOK cX6_in 6 (some .boolean) RX6 1 ctb_X6_in := CallOK_nil
theorem ct_X6_in : Ct yX6_in cX6_in 6 (some .boolean) 1 F_X6_in := by
  intro l D σ cA sz as w K h
  unfold F_X6_in at h
  split at h
  · skip
    refine metL (pr := lkB pX6_in) (rk := 2) (ct := ctb_X6_in) (fld := lkB flX6) (cst := lkB csX6) (cstL := lkB clX6) [] pX6_in_ok kX6_in.2.2.2.2.2 fdX6 cdX6 rto2 cok_X6_in (Nat.le_of_ble_eq_true rfl) cut0 ?_ l D σ cA sz
    repeat' ((conv => whnf); (first | refine And.intro (by first | decide | with_reducible assumption) ?_ | with_reducible refine And.intro (fun hc => ?_) (fun hc => ?_) | with_reducible refine And.intro (fun hc => ?_) ?_ | fail))
    all_goals try (conv => whnf)
    · exact (kB0 h (fun q => absurd ((lg_lt _ _).mp hc) (Int64.not_lt.mpr q.1))).2
    · exact (kB0 h (fun q => absurd ((lg_gt _ _).mp hc) (Int64.not_lt.mpr q.2))).2
    · rename_i hc1
      exact (kB h ⟨Int64.not_lt.mp (fun q => hc1 ((lg_lt _ _).mpr q)), Int64.not_lt.mp (fun q => hc ((lg_gt _ _).mpr q))⟩).2
  · exact h.elim
theorem and1_01 (x : Int32) : (x &&& 1) = 0 ∨ (x &&& 1) = 1 := by
  obtain ⟨j, hj, e⟩ := pk_andE x (m := 1) 1 (by decide)
  rw [e]
  rcases (show j = 0 ∨ j = 1 by omega) with rfl | rfl
  · exact Or.inl (by decide)
  · exact Or.inr (by decide)
def F_X6_hasBit : Fn := fun as w K => match as with
  | [.inl b, .inl k] => K (some (.inl (bp (tb b k)))) w
  | _ => False
def ctb_X6_hasBit : List (Nat × (List sv → List sc → (List sv → List sc → Prop) → Prop)) := []
theorem cok_X6_hasBit : CallOK cX6_hasBit 2 (some .boolean) RX6 1 ctb_X6_hasBit := CallOK_nil
theorem ct_X6_hasBit : Ct yX6_hasBit cX6_hasBit 2 (some .boolean) 1 F_X6_hasBit := by
  intro l D σ cA sz as w K h
  unfold F_X6_hasBit at h
  split at h
  · skip
    refine metL (pr := lkB pX6_hasBit) (rk := 2) (ct := ctb_X6_hasBit) (fld := lkB flX6) (cst := lkB csX6) (cstL := lkB clX6) [] pX6_hasBit_ok kX6_hasBit.2.2.2.2.2 fdX6 cdX6 rto2 cok_X6_hasBit (Nat.le_of_ble_eq_true rfl) cut0 ?_ l D σ cA sz
    repeat' ((conv => whnf); (first | refine And.intro (by first | decide | with_reducible assumption) ?_ | with_reducible refine And.intro (fun hc => ?_) (fun hc => ?_) | with_reducible refine And.intro (fun hc => ?_) ?_ | fail))
    all_goals try (conv => whnf)
    · refine (kB0 h (fun q => ?_)).2
      rcases and1_01 _ with e | e
      · exact q e
      · exact hc e
    · refine (kB h (fun q => ?_)).2
      rw [q] at hc; exact absurd hc (by decide)
  · exact h.elim
def F_X6_held : Fn := fun as w K => match as with
  | [.inl v, .inl hi] => K (some (.inl (heldI v hi))) w
  | _ => False
def ctb_X6_held : List (Nat × (List sv → List sc → (List sv → List sc → Prop) → Prop)) := []
theorem cok_X6_held : CallOK cX6_held 2 (some .int) RX6 1 ctb_X6_held := CallOK_nil
theorem ct_X6_held : Ct yX6_held cX6_held 2 (some .int) 1 F_X6_held := by
  intro l D σ cA sz as w K h
  unfold F_X6_held at h
  split at h
  · skip
    refine metL (pr := lkB pX6_held) (rk := 1) (ct := ctb_X6_held) (fld := lkB flX6) (cst := lkB csX6) (cstL := lkB clX6) [] pX6_held_ok kX6_held.2.2.2.2.2 fdX6 cdX6 rto1 cok_X6_held (Nat.le_of_ble_eq_true rfl) cut0 ?_ l D σ cA sz
    repeat' ((conv => whnf); (first | refine And.intro (by first | decide | with_reducible assumption) ?_ | with_reducible refine And.intro (fun hc => ?_) (fun hc => ?_) | with_reducible refine And.intro (fun hc => ?_) ?_ | fail))
    all_goals try (conv => whnf)
    · rename_i hc1
      exact kI h (by unfold heldI; rw [if_neg (Int32.not_lt.mpr hc1), if_neg (Int32.not_lt.mpr hc)])
    · rename_i hc1
      exact kI h (by unfold heldI; rw [if_neg (Int32.not_lt.mpr hc1), if_pos (Int32.not_le.mp hc)])
    · exact kI h (by unfold heldI; rw [if_pos (Int32.not_le.mp hc)])
  · exact h.elim
def F_X6_isPlate : Fn := fun as w K => match as with
  | [.inl k] => K (some (.inl (bp (0 ≤ k ∧ k ≤ 9)))) w
  | _ => False
theorem bp_iff {P Q : Prop} (h : P ↔ Q) : bp P = bp Q := by rw [propext h]
theorem l_0 : (0 : Int64) = (0 : Int32).toInt64 := by decide
theorem l_1 : (1 : Int64) = (1 : Int32).toInt64 := by decide
theorem l_9 : (9 : Int64) = (9 : Int32).toInt64 := by decide
theorem l_60 : (60 : Int64) = (60 : Int32).toInt64 := by decide
theorem l_7 : (7 : Int64) = (7 : Int32).toInt64 := by decide
theorem l_99 : (99 : Int64) = (99 : Int32).toInt64 := by decide
theorem l_2 : (2 : Int64) = (2 : Int32).toInt64 := by decide
theorem l_m1 : (-1 : Int64) = (-1 : Int32).toInt64 := by decide
theorem l_20 : (20 : Int64) = (20 : Int32).toInt64 := by decide
theorem l_30 : (30 : Int64) = (30 : Int32).toInt64 := by decide
theorem l_48 : (48 : Int64) = (48 : Int32).toInt64 := by decide
theorem l_57 : (57 : Int64) = (57 : Int32).toInt64 := by decide
theorem in_ii (a b c : Int32) : bp (a.toInt64 ≤ b.toInt64 ∧ b.toInt64 ≤ c.toInt64) = bp (a ≤ b ∧ b ≤ c) := bp_iff (by rw [w_le, w_le])
def ctb_X6_isPlate : List (Nat × (List sv → List sc → (List sv → List sc → Prop) → Prop)) := [(6, cS none 3 F_X6_in)]
theorem cok_X6_isPlate : CallOK cX6_isPlate 1 (some .boolean) RX6 2 ctb_X6_isPlate := CallOK_cons (site_same (rnS (pX6_isPlate_ok 6 _ rfl) ct_X6_in kX6_in lRX6_81 (by decide))) (CallOK_nil)
theorem ct_X6_isPlate : Ct yX6_isPlate cX6_isPlate 1 (some .boolean) 2 F_X6_isPlate := by
  intro l D σ cA sz as w K h
  unfold F_X6_isPlate at h
  split at h
  · rename_i k
    refine metL (pr := lkB pX6_isPlate) (rk := 2) (ct := ctb_X6_isPlate) (fld := lkB flX6) (cst := lkB csX6) (cstL := lkB clX6) [] pX6_isPlate_ok kX6_isPlate.2.2.2.2.2 fdX6 cdX6 rto2 cok_X6_isPlate (Nat.le_of_ble_eq_true rfl) cut0 ?_ l D σ cA sz
    repeat' ((conv => whnf); (first | refine And.intro (by first | decide | with_reducible assumption) ?_ | with_reducible refine And.intro (fun hc => ?_) (fun hc => ?_) | with_reducible refine And.intro (fun hc => ?_) ?_ | fail))
    all_goals try (conv => whnf)
    refine ⟨bp_01 _, kI h ?_⟩
    exact (in_ii 0 k 9).symm
  · exact h.elim
def F_X6_isOne : Fn := fun as w K => ∃ (s : InnS) (q : Pm) (t : Tm) (g : Int32), as = [sR 0, sI g] ∧ w = modW s q t ∧ K (some (.inl (bp (0 ≤ g ∧ g ≤ iG s - 1)))) w
def ctb_X6_isOne : List (Nat × (List sv → List sc → (List sv → List sc → Prop) → Prop)) := [(10, cS none 3 F_X6_in)]
theorem cok_X6_isOne : CallOK cX6_isOne 2 (some .boolean) RX6 2 ctb_X6_isOne := CallOK_cons (site_same (rnS (pX6_isOne_ok 10 _ rfl) ct_X6_in kX6_in lRX6_81 (by decide))) (CallOK_nil)
theorem ct_X6_isOne : Ct yX6_isOne cX6_isOne 2 (some .boolean) 2 F_X6_isOne := by
  intro l D σ cA sz as w K h
  obtain ⟨s, q, t, g, rfl, rfl, h⟩ := h
  refine metL (pr := lkB pX6_isOne) (rk := 2) (ct := ctb_X6_isOne) (fld := lkB flX6) (cst := lkB csX6) (cstL := lkB clX6) [] pX6_isOne_ok kX6_isOne.2.2.2.2.2.2.2 fdX6 cdX6 rto2 cok_X6_isOne (Nat.le_of_ble_eq_true rfl) cut0 ?_ l D σ cA sz
  repeat' ((conv => whnf); (first | refine And.intro (by first | decide | with_reducible assumption) ?_ | with_reducible refine And.intro (fun hc => ?_) (fun hc => ?_) | with_reducible refine And.intro (fun hc => ?_) ?_ | fail))
  all_goals try (conv => whnf)
  exact ⟨bp_01 _, kI h (in_ii 0 g (iG s - 1)).symm⟩
def F_X6_eatsOf : Fn := fun as w K => ∃ (s : InnS) (q : Pm) (t : Tm) (g : Int32), as = [sR 0, sI g] ∧ w = modW s q t ∧ vp_in g 7 ∧ K (some (.inl (eatsK (iK s (ix g))))) w
def ctb_X6_eatsOf : List (Nat × (List sv → List sc → (List sv → List sc → Prop) → Prop)) := []
theorem cok_X6_eatsOf : CallOK cX6_eatsOf 2 (some .int) RX6 1 ctb_X6_eatsOf := CallOK_nil
theorem ct_X6_eatsOf : Ct yX6_eatsOf cX6_eatsOf 2 (some .int) 1 F_X6_eatsOf := by
  intro l D σ cA sz as w K h
  obtain ⟨s, q, t, g, rfl, rfl, hg, h⟩ := h
  refine metL (pr := lkB pX6_eatsOf) (rk := 1) (ct := ctb_X6_eatsOf) (fld := lkB flX6) (cst := lkB csX6) (cstL := lkB clX6) [] pX6_eatsOf_ok kX6_eatsOf.2.2.2.2.2.2.2 fdX6 cdX6 rto1 cok_X6_eatsOf (Nat.le_of_ble_eq_true rfl) cut0 ?_ l D σ cA sz
  repeat' ((conv => whnf); (first | refine And.intro (by first | decide | with_reducible assumption) ?_ | with_reducible refine And.intro (fun hc => ?_) (fun hc => ?_) | with_reducible refine And.intro (fun hc => ?_) ?_ | fail))
  all_goals try (conv => whnf)
  all_goals (refine kI h ?_; clear h; simp_all [eatsK])
def F_X6_dreamsOf : Fn := fun as w K => ∃ (s : InnS) (q : Pm) (t : Tm) (g n : Int32), as = [sR 0, sI g, sI n] ∧ w = modW s q t ∧ vp_in g 7 ∧ ¬ iF s (ix g) + 2 = 0 ∧ K (some (.inl (dmS s g n))) w
def ctb_X6_dreamsOf : List (Nat × (List sv → List sc → (List sv → List sc → Prop) → Prop)) := []
theorem cok_X6_dreamsOf : CallOK cX6_dreamsOf 5 (some .int) RX6 1 ctb_X6_dreamsOf := CallOK_nil
theorem ct_X6_dreamsOf : Ct yX6_dreamsOf cX6_dreamsOf 5 (some .int) 1 F_X6_dreamsOf := by
  intro l D σ cA sz as w K h
  obtain ⟨s, q, t, g, n, rfl, rfl, hg, hf, h⟩ := h
  refine metL (pr := lkB pX6_dreamsOf) (rk := 1) (ct := ctb_X6_dreamsOf) (fld := lkB flX6) (cst := lkB csX6) (cstL := lkB clX6) [] pX6_dreamsOf_ok kX6_dreamsOf.2.2.2.2.2.2.2 fdX6 cdX6 rto1 cok_X6_dreamsOf (Nat.le_of_ble_eq_true rfl) cut0 ?_ l D σ cA sz
  repeat' ((conv => whnf); (first | refine And.intro (by first | decide | with_reducible assumption) ?_ | with_reducible refine And.intro (fun hc => ?_) (fun hc => ?_) | with_reducible refine And.intro (fun hc => ?_) ?_ | fail))
  all_goals try (conv => whnf)
  all_goals first | trivial | (refine kI h ?_; clear h; simp_all [dmS, dreamK, cookD, ofI1]; done) | (have a := out17 (k := iK s g.toNatClampNeg) (by assumption); refine kI h ?_; clear h; simp_all [dmS, dreamK, cookD]; done)
def F_X6_gainsOf : Fn := fun as w K => ∃ (s : InnS) (q : Pm) (t : Tm) (g k : Int32), as = [sR 0, sI g, sI k] ∧ w = modW s q t ∧ vp_in g 7 ∧ K (some (.inl (gainK (iK s (ix g)) (iF s (ix g)) k (iL s (ix g))))) w
def ctb_X6_gainsOf : List (Nat × (List sv → List sc → (List sv → List sc → Prop) → Prop)) := [(78, cS none 2 F_X6_held)]
theorem cok_X6_gainsOf : CallOK cX6_gainsOf 3 (some .int) RX6 2 ctb_X6_gainsOf := CallOK_cons (site_same (rnS (pX6_gainsOf_ok 78 _ rfl) ct_X6_held kX6_held lRX6_88 (by decide))) (CallOK_nil)
theorem ct_X6_gainsOf : Ct yX6_gainsOf cX6_gainsOf 3 (some .int) 2 F_X6_gainsOf := by
  intro l D σ cA sz as w K h
  obtain ⟨s, q, t, g, k, rfl, rfl, hg, h⟩ := h
  refine metL (pr := lkB pX6_gainsOf) (rk := 1) (ct := ctb_X6_gainsOf) (fld := lkB flX6) (cst := lkB csX6) (cstL := lkB clX6) [] pX6_gainsOf_ok kX6_gainsOf.2.2.2.2.2.2.2 fdX6 cdX6 rto1 cok_X6_gainsOf (Nat.le_of_ble_eq_true rfl) cut0 ?_ l D σ cA sz
  repeat' ((conv => whnf); (first | refine And.intro (by first | decide | with_reducible assumption) ?_ | with_reducible refine And.intro (fun hc => ?_) (fun hc => ?_) | with_reducible refine And.intro (fun hc => ?_) ?_ | fail))
  all_goals try (conv => whnf)
  all_goals first | trivial | (refine kI h ?_; clear h; simp_all [gainK, ofI1]; done) | (have a := out17 (k := iK s g.toNatClampNeg) (by assumption); refine kI h ?_; clear h; simp_all [gainK]; done)
