/-! ===== a shelf: what it holds, a kind, a figure, a sort, a size, cells ===== -/
abbrev ShS : Type := Int32 × Int32 × Int32 × Int32 × Int32 × PA
abbrev uO (u : ShS) : Int32 := u.1
abbrev uK (u : ShS) : Int32 := u.2.1
abbrev uF (u : ShS) : Int32 := u.2.2.1
abbrev uS (u : ShS) : Int32 := u.2.2.2.1
abbrev uM (u : ShS) : Int32 := u.2.2.2.2.1
abbrev uC (u : ShS) : PA := u.2.2.2.2.2
/-- the object, the inn as it is, the inn in mind, the row of shelves, one shelf (the d-th) and its cells -/
def shX (f : Nat → Option Nat) (u : ShS) : List sc := [aR 8 f, oC 2 [sI (uO u), sI (uK u), sI (uF u), sI (uS u), sI (uM u), sR 17], aI 100 (uC u)]
def xS (r2 r4 r5 : sv) (hi : Int32) (s m : InnS) (f : Nat → Option Nat) (u : ShS) : List sc := x2W r2 (sR 15) r4 r5 hi s m ++ shX f u
def SH (u : ShS) : Prop := rng 3 (uO u) ∧ (uO u = 1 → rng 8 (uK u) ∧ rng 10 (uF u)) ∧ (uO u = 2 → rng 3 (uS u) ∧ rng 101 (uM u))
/-- the reference's shelf d is u -/
def SR (q : Pm) (d : Nat) (u : ShS) : Prop := qH q d = uO u ∧ (uO u = 1 → qK q d = uK u ∧ qF q d = uF u) ∧ (uO u = 2 → qS q d = uS u ∧ qM q d = uM u ∧ ∀ i, i < ix (uM u) → qR q (100 * d + i) = (uC u i).toInt64)
def reF (u : ShS) (d v : Int32) : Int32 := if 0 ≤ d ∧ d ≤ 7 then (if uO u = 0 then -11 else if uO u = v then 0 else -12) else -1
theorem re_0 {u : ShS} {d v : Int32} (h : reF u d v = 0) : (0 ≤ d ∧ d ≤ 7) ∧ uO u = v := by
  unfold reF at h
  split at h
  · rename_i h1
    split at h
    · exact absurd h (by decide)
    · split at h
      · exact ⟨h1, by assumption⟩
      · exact absurd h (by decide)
  · exact absurd h (by decide)
theorem re_ge {u : ShS} {d v : Int32} (h : 0 ≤ reF u d v) : reF u d v = 0 := by
  unfold reF at h ⊢
  split at h
  · split at h
    · exact absurd h (by decide)
    · split at h
      · rename_i h1 h2 h3
        rw [if_pos h1, if_neg h2, if_pos h3]
      · exact absurd h (by decide)
  · exact absurd h (by decide)
theorem re_lt {u : ShS} {d v : Int32} (h : ¬ 0 ≤ reF u d v) : ¬ reF u d v = 0 := fun z => h (by rw [z]; decide)
theorem sh_in {d : Int32} (h : 0 ≤ d ∧ d ≤ 7) : vp_in d 8 := by
  obtain ⟨j, hj, rfl⟩ := in_rng (n := 7) (by decide) h
  exact vp_in_nI (by omega) (by decide)
theorem sh_n {d : Int32} (h : 0 ≤ d ∧ d ≤ 7) : ∃ j, j < 8 ∧ d = nI j := by
  obtain ⟨j, hj, rfl⟩ := in_rng (n := 7) (by decide) h
  exact ⟨j, by omega, rfl⟩
def F_X5_refusalUnless : Fn := fun as w K => ∃ (r2 r4 r5 : sv) (hi : Int32) (s m : InnS) (f : Nat → Option Nat) (u : ShS) (d v : Int32), as = [sR 0, sI d, sI v] ∧ w = xS r2 r4 r5 hi s m f u ∧ (0 ≤ d ∧ d ≤ 7 → f (ix d) = some 16) ∧ K (some (.inl (reF u d v))) w
def ctb_X5_refusalUnless : List (Nat × (List sv → List sc → (List sv → List sc → Prop) → Prop)) := [(1, cS none 1 F_X5_isShelf)]
theorem cok_X5_refusalUnless : CallOK cX5_refusalUnless 3 (some .int) RX5 3 ctb_X5_refusalUnless := CallOK_cons (site_same (rnS (pX5_refusalUnless_ok 1 _ rfl) ct_X5_isShelf kX5_isShelf lRX5_246 (by decide))) (CallOK_nil)
theorem ct_X5_refusalUnless : Ct yX5_refusalUnless cX5_refusalUnless 3 (some .int) 3 F_X5_refusalUnless := by
  intro l D σ cA sz as w K h
  obtain ⟨r2, r4, r5, hi, s, m, f, u, d, v, rfl, rfl, hf, h⟩ := h
  refine metL (pr := lkB pX5_refusalUnless) (rk := 1) (ct := ctb_X5_refusalUnless) (fld := lkB flX5) (cst := lkB csX5) (cstL := lkB clX5) [] pX5_refusalUnless_ok kX5_refusalUnless.2.2.2.2.2.2.2 fdX5 cdX5 rto1 cok_X5_refusalUnless (Nat.le_of_ble_eq_true rfl) cut0 ?_ l D σ cA sz
  conv => whnf
  refine ⟨fun hc => ?_, fun hc => ?_⟩
  · have hc := bp_n hc
    have hf := hf hc
    have hv := sh_in hc
    conv => whnf
    refine ⟨hv, ?_⟩
    rw [hf]
    conv => whnf
    refine ⟨fun h1 => ?_, fun h1 => ?_⟩
    · conv => whnf
      refine ⟨hv, ?_⟩
      rw [hf]
      conv => whnf
      refine ⟨fun h2 => ?_, fun h2 => ?_⟩
      · conv => whnf
        exact kI h (by unfold reF; rw [if_pos hc, if_neg h1, if_neg h2])
      · conv => whnf
        exact kI h (by unfold reF; rw [if_pos hc, if_neg h1, if_pos h2])
    · conv => whnf
      exact kI h (by unfold reF; rw [if_pos hc, if_pos h1])
  · conv => whnf
    exact kI h (by unfold reF; rw [if_neg (bp_0.mp hc)])
def F_X5_rowRefusal : Fn := fun as w K => ∃ (r2 r4 r5 : sv) (hi : Int32) (s m : InnS) (f : Nat → Option Nat) (u : ShS) (d : Int32), as = [sR 0, sI d] ∧ w = xS r2 r4 r5 hi s m f u ∧ (0 ≤ d ∧ d ≤ 7 → f (ix d) = some 16) ∧ K (some (.inl (reF u d 2))) w
def ctb_X5_rowRefusal : List (Nat × (List sv → List sc → (List sv → List sc → Prop) → Prop)) := [(3, cS (some 3) 3 F_X5_refusalUnless)]
theorem cok_X5_rowRefusal : CallOK cX5_rowRefusal 2 (some .int) RX5 4 ctb_X5_rowRefusal := CallOK_cons (site_same (rnV (pX5_rowRefusal_ok 3 _ rfl) ct_X5_refusalUnless kX5_refusalUnless lRX5_308 (by decide))) (CallOK_nil)
theorem ct_X5_rowRefusal : Ct yX5_rowRefusal cX5_rowRefusal 2 (some .int) 4 F_X5_rowRefusal := by
  intro l D σ cA sz as w K h
  obtain ⟨r2, r4, r5, hi, s, m, f, u, d, rfl, rfl, hf, h⟩ := h
  refine metL (pr := lkB pX5_rowRefusal) (rk := 1) (ct := ctb_X5_rowRefusal) (fld := lkB flX5) (cst := lkB csX5) (cstL := lkB clX5) [] pX5_rowRefusal_ok kX5_rowRefusal.2.2.2.2.2.2.2 fdX5 cdX5 rto1 cok_X5_rowRefusal (Nat.le_of_ble_eq_true rfl) cut0 ?_ l D σ cA sz
  conv => whnf
  refine ⟨r2, r4, r5, hi, s, m, f, u, d, 2, rfl, rfl, hf, ?_⟩
  conv => whnf
  exact h
def F_X5_kindRefusal : Fn := fun as w K => ∃ (r2 r4 r5 : sv) (hi : Int32) (s m : InnS) (f : Nat → Option Nat) (u : ShS) (d : Int32), as = [sR 0, sI d] ∧ w = xS r2 r4 r5 hi s m f u ∧ (0 ≤ d ∧ d ≤ 7 → f (ix d) = some 16) ∧ K (some (.inl (reF u d 1))) w
def ctb_X5_kindRefusal : List (Nat × (List sv → List sc → (List sv → List sc → Prop) → Prop)) := [(3, cS (some 3) 3 F_X5_refusalUnless)]
theorem cok_X5_kindRefusal : CallOK cX5_kindRefusal 2 (some .int) RX5 4 ctb_X5_kindRefusal := CallOK_cons (site_same (rnV (pX5_kindRefusal_ok 3 _ rfl) ct_X5_refusalUnless kX5_refusalUnless lRX5_308 (by decide))) (CallOK_nil)
theorem ct_X5_kindRefusal : Ct yX5_kindRefusal cX5_kindRefusal 2 (some .int) 4 F_X5_kindRefusal := by
  intro l D σ cA sz as w K h
  obtain ⟨r2, r4, r5, hi, s, m, f, u, d, rfl, rfl, hf, h⟩ := h
  refine metL (pr := lkB pX5_kindRefusal) (rk := 1) (ct := ctb_X5_kindRefusal) (fld := lkB flX5) (cst := lkB csX5) (cstL := lkB clX5) [] pX5_kindRefusal_ok kX5_kindRefusal.2.2.2.2.2.2.2 fdX5 cdX5 rto1 cok_X5_kindRefusal (Nat.le_of_ble_eq_true rfl) cut0 ?_ l D σ cA sz
  conv => whnf
  refine ⟨r2, r4, r5, hi, s, m, f, u, d, 1, rfl, rfl, hf, ?_⟩
  conv => whnf
  exact h
/-- whatever lies beside it -/
def F_X5_inMindE : Fn := fun as w K => ∃ (r2 r3 r4 r5 : sv) (hi : Int32) (s m : InnS) (ext : List sc), as = [sR 0] ∧ w = x2W r2 r3 r4 r5 hi s m ++ ext ∧ ZB s ∧ ZB m ∧ K (some (sR 8)) (x2W r2 r3 r4 r5 hi s s ++ ext)
def ctb_X5_inMind_E : List (Nat × (List sv → List sc → (List sv → List sc → Prop) → Prop)) := [(8, cG [8, 9, 10, 11, 12, 13, 14, 1, 2, 3, 4, 5, 6, 7] (some 0) 2 F_X0_become)]
theorem cok_X5_inMind_E : CallOK cX5_inMind 1 (some (.object "ServesWhatOneDreamt$Inn")) RX5 2 ctb_X5_inMind_E := CallOK_cons (site_gen [8, 9, 10, 11, 12, 13, 14, 1, 2, 3, 4, 5, 6, 7] (by decide) (rnV (pX5_inMind_ok 8 _ rfl) ct_X0_become kX0_become lRX5_76 (by decide))) (CallOK_nil)
theorem ct_X5_inMindE : Ct yX5_inMind cX5_inMind 1 (some (.object "ServesWhatOneDreamt$Inn")) 2 F_X5_inMindE := by
  intro l D σ cA sz as w K h
  obtain ⟨r2, r3, r4, r5, hi, s, m, ext, rfl, rfl, hZ, hM, h⟩ := h
  refine metL (pr := lkB pX5_inMind) (rk := 4) (ct := ctb_X5_inMind_E) (fld := lkB flX5) (cst := lkB csX5) (cstL := lkB clX5) [] pX5_inMind_ok kX5_inMind.2.2.2.2.2.2.2 fdX5 cdX5 (rto4 _) cok_X5_inMind_E (Nat.le_of_ble_eq_true rfl) cut0 ?_ l D σ cA sz
  conv => whnf
  refine ⟨m, s, rfl, rfl, hM, hZ, ?_⟩
  conv => whnf
  exact h
def F_X6_wrongRow : Fn := fun as w K => ∃ (s : InnS) (q : Pm) (t : Tm) (u : ShS) (d : Int32), as = [sR 0, sI d] ∧ w = modW s q t ∧ (0 ≤ d ∧ d ≤ 7 → SR q (ix d) u) ∧ K (some (.inl (reF u d 2))) w
def ctb_X6_wrongRow : List (Nat × (List sv → List sc → (List sv → List sc → Prop) → Prop)) := [(6, cS none 3 F_X6_in)]
theorem cok_X6_wrongRow : CallOK cX6_wrongRow 2 (some .int) RX6 2 ctb_X6_wrongRow := CallOK_cons (site_same (rnS (pX6_wrongRow_ok 6 _ rfl) ct_X6_in kX6_in lRX6_81 (by decide))) (CallOK_nil)
theorem ct_X6_wrongRow : Ct yX6_wrongRow cX6_wrongRow 2 (some .int) 2 F_X6_wrongRow := by
  intro l D σ cA sz as w K h
  obtain ⟨s, q, t, u, d, rfl, rfl, hu, h⟩ := h
  refine metL (pr := lkB pX6_wrongRow) (rk := 1) (ct := ctb_X6_wrongRow) (fld := lkB flX6) (cst := lkB csX6) (cstL := lkB clX6) [] pX6_wrongRow_ok kX6_wrongRow.2.2.2.2.2.2.2 fdX6 cdX6 rto1 cok_X6_wrongRow (Nat.le_of_ble_eq_true rfl) cut0 ?_ l D σ cA sz
  conv => whnf
  refine ⟨fun hc => ?_, fun hc => ?_⟩
  · have hc := bp_n (fun z => hc ((in_ii 0 d 7).trans z))
    have hv := sh_in hc
    have e0 : qH q d.toNatClampNeg = uO u := (hu hc).1
    conv => whnf
    refine ⟨hv, ?_⟩
    rw [e0]
    conv => whnf
    refine ⟨fun h1 => ?_, fun h1 => ?_⟩
    · conv => whnf
      refine ⟨hv, ?_⟩
      rw [e0]
      conv => whnf
      refine ⟨fun h2 => ?_, fun h2 => ?_⟩
      · conv => whnf
        exact kI h (by unfold reF; rw [if_pos hc, if_neg h1, if_pos h2])
      · conv => whnf
        exact kI h (by unfold reF; rw [if_pos hc, if_neg h1, if_neg h2])
    · conv => whnf
      exact kI h (by unfold reF; rw [if_pos hc, if_pos h1])
  · have hc := bp_0.mp ((in_ii 0 d 7).symm.trans hc)
    conv => whnf
    exact kI h (by unfold reF; rw [if_neg hc])
def F_X6_wrongKept : Fn := fun as w K => ∃ (s : InnS) (q : Pm) (t : Tm) (u : ShS) (d : Int32), as = [sR 0, sI d] ∧ w = modW s q t ∧ (0 ≤ d ∧ d ≤ 7 → SR q (ix d) u ∧ SH u) ∧ K (some (.inl (reF u d 1))) w
theorem r3_1 {x : Int32} (h : rng 3 x) (h0 : ¬ x = 0) (h2 : ¬ x = 2) : x = 1 := by
  obtain ⟨j, hj, rfl⟩ := h
  rcases (show j = 0 ∨ j = 1 ∨ j = 2 by omega) with rfl | rfl | rfl
  · exact absurd rfl h0
  · rfl
  · exact absurd rfl h2
def ctb_X6_wrongKept : List (Nat × (List sv → List sc → (List sv → List sc → Prop) → Prop)) := [(6, cS none 3 F_X6_in)]
theorem cok_X6_wrongKept : CallOK cX6_wrongKept 2 (some .int) RX6 2 ctb_X6_wrongKept := CallOK_cons (site_same (rnS (pX6_wrongKept_ok 6 _ rfl) ct_X6_in kX6_in lRX6_81 (by decide))) (CallOK_nil)
theorem ct_X6_wrongKept : Ct yX6_wrongKept cX6_wrongKept 2 (some .int) 2 F_X6_wrongKept := by
  intro l D σ cA sz as w K h
  obtain ⟨s, q, t, u, d, rfl, rfl, hu, h⟩ := h
  refine metL (pr := lkB pX6_wrongKept) (rk := 1) (ct := ctb_X6_wrongKept) (fld := lkB flX6) (cst := lkB csX6) (cstL := lkB clX6) [] pX6_wrongKept_ok kX6_wrongKept.2.2.2.2.2.2.2 fdX6 cdX6 rto1 cok_X6_wrongKept (Nat.le_of_ble_eq_true rfl) cut0 ?_ l D σ cA sz
  conv => whnf
  refine ⟨fun hc => ?_, fun hc => ?_⟩
  · have hc := bp_n (fun z => hc ((in_ii 0 d 7).trans z))
    have hv := sh_in hc
    have e0 : qH q d.toNatClampNeg = uO u := (hu hc).1.1
    conv => whnf
    refine ⟨hv, ?_⟩
    rw [e0]
    conv => whnf
    refine ⟨fun h1 => ?_, fun h1 => ?_⟩
    · conv => whnf
      refine ⟨hv, ?_⟩
      rw [e0]
      conv => whnf
      refine ⟨fun h2 => ?_, fun h2 => ?_⟩
      · conv => whnf
        exact kI h (by unfold reF; rw [if_pos hc, if_neg h1, if_pos (r3_1 (hu hc).2.1 h1 h2)])
      · conv => whnf
        exact kI h (by unfold reF; rw [if_pos hc, if_neg h1, if_neg (by rw [h2]; decide)])
    · conv => whnf
      exact kI h (by unfold reF; rw [if_pos hc, if_pos h1])
  · have hc := bp_0.mp ((in_ii 0 d 7).symm.trans hc)
    conv => whnf
    exact kI h (by unfold reF; rw [if_neg hc])
/-! what a cell tells -/
def leI (s : Int32) : Int32 := if s = 0 then -128 else if s = 1 then -32768 else -2147483648
def soP (u : ShS) (i : Nat) (v : Int32) : Prop := uC u i = v ∨ uC u i = leI (uS u)
def shW (u : ShS) : List sc := [oC 2 [sI (uO u), sI (uK u), sI (uF u), sI (uS u), sI (uM u), sR 1], aI 100 (uC u)]
def F_X3_leastNumber : Fn := fun as w K => ∃ (u : ShS), as = [sR 0] ∧ w = shW u ∧ K (some (.inl (leI (uS u)))) w
def ctb_X3_leastNumber : List (Nat × (List sv → List sc → (List sv → List sc → Prop) → Prop)) := []
theorem cok_X3_leastNumber : CallOK cX3_leastNumber 1 (some .int) RX3 1 ctb_X3_leastNumber := CallOK_nil
theorem ct_X3_leastNumber : Ct yX3_leastNumber cX3_leastNumber 1 (some .int) 1 F_X3_leastNumber := by
  intro l D σ cA sz as w K h
  obtain ⟨u, rfl, rfl, h⟩ := h
  refine metL (pr := lkB pX3_leastNumber) (rk := 1) (ct := ctb_X3_leastNumber) (fld := lkB flX3) (cst := lkB csX3) (cstL := lkB clX3) [] pX3_leastNumber_ok kX3_leastNumber.2.2.2.2.2.2.2 fdX3 cdX3 rto1 cok_X3_leastNumber (Nat.le_of_ble_eq_true rfl) cut0 ?_ l D σ cA sz
  repeat' ((conv => whnf); (first | refine And.intro (by first | decide | with_reducible assumption) ?_ | with_reducible refine And.intro (fun hc => ?_) (fun hc => ?_) | with_reducible refine And.intro (fun hc => ?_) ?_ | fail))
  all_goals try (conv => whnf)
  all_goals exact kI h (by unfold leI; clear h; simp_all)
def F_X3_isSo : Fn := fun as w K => ∃ (u : ShS) (i : Nat) (v : Int32), as = [sR 0, sI (nI i), sI v] ∧ w = shW u ∧ i < 100 ∧ K (some (.inl (bp (soP u i v)))) w
def ctb_X3_isSo : List (Nat × (List sv → List sc → (List sv → List sc → Prop) → Prop)) := [(17, cS (some 2) 1 F_X3_leastNumber)]
theorem cok_X3_isSo : CallOK cX3_isSo 3 (some .boolean) RX3 2 ctb_X3_isSo := CallOK_cons (site_same (rnV (pX3_isSo_ok 17 _ rfl) ct_X3_leastNumber kX3_leastNumber lRX3_35 (by decide))) (CallOK_nil)
theorem ct_X3_isSo : Ct yX3_isSo cX3_isSo 3 (some .boolean) 2 F_X3_isSo := by
  intro l D σ cA sz as w K h
  obtain ⟨u, i, v, rfl, rfl, hi, h⟩ := h
  have hv : vp_in (nI i) 100 := vp_in_nI hi (by decide)
  have ei : (nI i).toNatClampNeg = i := nI_clamp (by omega)
  refine metL (pr := lkB pX3_isSo) (rk := 2) (ct := ctb_X3_isSo) (fld := lkB flX3) (cst := lkB csX3) (cstL := lkB clX3) [] pX3_isSo_ok kX3_isSo.2.2.2.2.2.2.2 fdX3 cdX3 rto2 cok_X3_isSo (Nat.le_of_ble_eq_true rfl) cut0 ?_ l D σ cA sz
  conv => whnf
  refine ⟨hv, ?_⟩
  rw [ei]
  conv => whnf
  refine ⟨fun h1 => ?_, fun h1 => ?_⟩
  · conv => whnf
    exact kB h (Or.inl h1)
  · conv => whnf
    refine ⟨hv, ?_⟩
    rw [ei]
    conv => whnf
    refine ⟨u, rfl, rfl, ?_⟩
    conv => whnf
    refine ⟨fun h2 => ?_, fun h2 => ?_⟩
    · conv => whnf
      exact kB0 h (fun z => z.elim h1 h2)
    · conv => whnf
      exact kB h (Or.inr h2)
def F_X3_hasCell : Fn := fun as w K => ∃ (u : ShS) (i : Int32), as = [sR 0, sI i] ∧ w = shW u ∧ K (some (.inl (bp (0 ≤ i ∧ i ≤ uM u - 1)))) w
def ctb_X3_hasCell : List (Nat × (List sv → List sc → (List sv → List sc → Prop) → Prop)) := [(8, cS none 3 F_X5_within)]
theorem cok_X3_hasCell : CallOK cX3_hasCell 2 (some .boolean) RX3 2 ctb_X3_hasCell := CallOK_cons (site_same (rnN (pX3_hasCell_ok 8 _ rfl) ct_X5_within kX5_within (List.mem_of_getElem? (i := 2) rfl) (by decide))) (CallOK_nil)
theorem ct_X3_hasCell : Ct yX3_hasCell cX3_hasCell 2 (some .boolean) 2 F_X3_hasCell := by
  intro l D σ cA sz as w K h
  obtain ⟨u, i, rfl, rfl, h⟩ := h
  refine metL (pr := lkB pX3_hasCell) (rk := 2) (ct := ctb_X3_hasCell) (fld := lkB flX3) (cst := lkB csX3) (cstL := lkB clX3) [] pX3_hasCell_ok kX3_hasCell.2.2.2.2.2.2.2 fdX3 cdX3 rto2 cok_X3_hasCell (Nat.le_of_ble_eq_true rfl) cut0 ?_ l D σ cA sz
  repeat' ((conv => whnf); (first | refine And.intro (by first | decide | with_reducible assumption) ?_ | with_reducible refine And.intro (fun hc => ?_) (fun hc => ?_) | with_reducible refine And.intro (fun hc => ?_) ?_ | fail))
  all_goals try (conv => whnf)
  exact ⟨bp_01 _, h⟩
def F_X6_leastOf : Fn := fun as w K => match as with
  | [.inl s] => K (some (.inr (.inl (leI s).toInt64))) w
  | _ => False
theorem kL {K : Option sv → List sc → Prop} {w : List sc} {x y : Int64} (h : K (some (.inr (.inl x))) w) (e : x = y) : K (some (.inr (.inl y))) w := e ▸ h
def ctb_X6_leastOf : List (Nat × (List sv → List sc → (List sv → List sc → Prop) → Prop)) := []
theorem cok_X6_leastOf : CallOK cX6_leastOf 1 (some .long) RX6 1 ctb_X6_leastOf := CallOK_nil
theorem ct_X6_leastOf : Ct yX6_leastOf cX6_leastOf 1 (some .long) 1 F_X6_leastOf := by
  intro l D σ cA sz as w K h
  unfold F_X6_leastOf at h
  split at h
  · skip
    refine metL (pr := lkB pX6_leastOf) (rk := 3) (ct := ctb_X6_leastOf) (fld := lkB flX6) (cst := lkB csX6) (cstL := lkB clX6) [] pX6_leastOf_ok kX6_leastOf.2.2.2.2.2 fdX6 cdX6 rto3 cok_X6_leastOf (Nat.le_of_ble_eq_true rfl) cut0 ?_ l D σ cA sz
    repeat' ((conv => whnf); (first | refine And.intro (by first | decide | with_reducible assumption) ?_ | with_reducible refine And.intro (fun hc => ?_) (fun hc => ?_) | with_reducible refine And.intro (fun hc => ?_) ?_ | fail))
    all_goals try (conv => whnf)
    · exact kL h (by unfold leI; rw [if_neg (by assumption), if_neg (by assumption)]; decide)
    · exact kL h (by unfold leI; rw [if_neg (by assumption), if_pos (by assumption)]; decide)
    · exact kL h (by unfold leI; rw [if_pos (by assumption)]; decide)
  · exact h.elim
theorem lg_eq (x y : Int64) : lg_cmp x y = 0 ↔ x = y := by
  unfold lg_cmp
  by_cases h1 : x > y
  · rw [if_pos h1]
    exact ⟨fun h => absurd h (by decide), fun h => absurd h1 (by rw [h]; exact Int64.lt_irrefl)⟩
  · rw [if_neg h1]
    by_cases h2 : x = y
    · rw [if_pos h2]
      exact ⟨fun _ => h2, fun _ => rfl⟩
    · rw [if_neg h2]
      exact ⟨fun h => absurd h (by decide), fun h => absurd h h2⟩
theorem w_eq (a b : Int32) : a.toInt64 = b.toInt64 ↔ a = b := by
  refine ⟨fun h => ?_, fun h => by rw [h]⟩
  have := congrArg Int64.toInt h
  rw [Int32.toInt_toInt64, Int32.toInt_toInt64] at this
  exact Int32.toInt_inj.mp this
theorem ce_ii (a b : Int32) : lg_cmp a.toInt64 b.toInt64 = 0 ↔ a = b := (lg_eq _ _).trans (w_eq a b)
/-- where an element of the row lies -/
theorem row_ix {d i : Nat} (hd : d < 8) (hi : i < 100) : 100 * nI d + nI i = nI (100 * d + i) ∧ vp_in (nI (100 * d + i)) 800 ∧ (nI (100 * d + i)).toNatClampNeg = 100 * d + i := by
  refine ⟨?_, vp_in_nI (by omega) (by decide), nI_clamp (by omega)⟩
  rw [show (100 : Int32) = nI 100 by decide, pk_mul, nI_add]
def F_X6_isSkipped : Fn := fun as w K => ∃ (s : InnS) (q : Pm) (t : Tm) (u : ShS) (d i : Nat), as = [sR 0, sI (nI d), sI (nI i)] ∧ w = modW s q t ∧ d < 8 ∧ i < 100 ∧ qR q (100 * d + i) = (uC u i).toInt64 ∧ qS q d = uS u ∧ K (some (.inl (bp (uC u i = leI (uS u))))) w
def ctb_X6_isSkipped : List (Nat × (List sv → List sc → (List sv → List sc → Prop) → Prop)) := [(17, cS none 1 F_X6_leastOf)]
theorem cok_X6_isSkipped : CallOK cX6_isSkipped 3 (some .boolean) RX6 2 ctb_X6_isSkipped := CallOK_cons (site_same (rnS (pX6_isSkipped_ok 17 _ rfl) ct_X6_leastOf kX6_leastOf lRX6_280 (by decide))) (CallOK_nil)
theorem ct_X6_isSkipped : Ct yX6_isSkipped cX6_isSkipped 3 (some .boolean) 2 F_X6_isSkipped := by
  intro l D σ cA sz as w K h
  obtain ⟨s, q, t, u, d, i, rfl, rfl, hd, hi, e1, e2, h⟩ := h
  obtain ⟨r1, r2, r3⟩ := row_ix hd hi
  refine metL (pr := lkB pX6_isSkipped) (rk := 2) (ct := ctb_X6_isSkipped) (fld := lkB flX6) (cst := lkB csX6) (cstL := lkB clX6) [] pX6_isSkipped_ok kX6_isSkipped.2.2.2.2.2.2.2 fdX6 cdX6 rto2 cok_X6_isSkipped (Nat.le_of_ble_eq_true rfl) cut0 ?_ l D σ cA sz
  conv => whnf
  rw [r1]
  refine ⟨r2, ?_⟩
  rw [r3, e1]
  conv => whnf
  refine ⟨vp_in_nI hd (by decide), ?_⟩
  rw [show (nI d).toNatClampNeg = d from nI_clamp (by omega), e2]
  conv => whnf
  refine ⟨fun hc => ?_, fun hc => ?_⟩
  · conv => whnf
    exact kB0 h (fun z => hc ((ce_ii _ _).mpr z))
  · conv => whnf
    exact kB h ((ce_ii _ _).mp hc)
