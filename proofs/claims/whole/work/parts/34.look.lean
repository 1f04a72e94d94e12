/-! ===== the reference: looking ahead ===== -/
/-- the scratch is the same but for what is kept -/
def SK (t t' : Tm) : Prop := (tSy t' = tSy t ∧ tMr t' = tMr t ∧ tTh t' = tTh t) ∧ (tRd t' = tRd t ∧ tPl t' = tPl t ∧ tBd t' = tBd t ∧ tSt t' = tSt t) ∧ (tPi t' = tPi t ∧ tLo t' = tLo t ∧ tTo t' = tTo t) ∧ tDr t' = tDr t ∧ tCe t' = tCe t ∧ tGa t' = tGa t ∧ tSd t' = tSd t ∧ tBt t' = tBt t
theorem SK.rf (t : Tm) : SK t t := ⟨⟨rfl, rfl, rfl⟩, ⟨rfl, rfl, rfl, rfl⟩, ⟨rfl, rfl, rfl⟩, rfl, rfl, rfl, rfl, rfl⟩
theorem SK.tr {a b c : Tm} (h : SK a b) (g : SK b c) : SK a c := ⟨⟨g.1.1.trans h.1.1, g.1.2.1.trans h.1.2.1, g.1.2.2.trans h.1.2.2⟩, ⟨g.2.1.1.trans h.2.1.1, g.2.1.2.1.trans h.2.1.2.1, g.2.1.2.2.1.trans h.2.1.2.2.1, g.2.1.2.2.2.trans h.2.1.2.2.2⟩, ⟨g.2.2.1.1.trans h.2.2.1.1, g.2.2.1.2.1.trans h.2.2.1.2.1, g.2.2.1.2.2.trans h.2.2.1.2.2⟩, g.2.2.2.1.trans h.2.2.2.1, g.2.2.2.2.1.trans h.2.2.2.2.1, g.2.2.2.2.2.1.trans h.2.2.2.2.2.1, g.2.2.2.2.2.2.1.trans h.2.2.2.2.2.2.1, g.2.2.2.2.2.2.2.trans h.2.2.2.2.2.2.2⟩
/-- s is kept -/
def KP (s : InnS) (t : Tm) : Prop := ∀ p, p < 50 → tKe t p = enc s p
def F_X6_think : Fn := fun as w K => ∃ (s : InnS) (q : Pm) (t : Tm), as = [sR 0] ∧ w = modW s q t ∧ ∀ t', SK t t' → KP s t' → K none (modW s q t')
def ctb_X6_think : List (Nat × (List sv → List sc → (List sv → List sc → Prop) → Prop)) := [(6, cS (some 4) 3 F_X6_carryAllK1)]
theorem cok_X6_think : CallOK cX6_think 1 none RX6 3 ctb_X6_think := CallOK_cons (site_same (rnV (pX6_think_ok 6 _ rfl) ct_X6_carryAllK1 kX6_carryAll lRX6_211 (by decide))) (CallOK_nil)
theorem ct_X6_think : Ct yX6_think cX6_think 1 none 3 F_X6_think := by
  intro l D σ cA sz as w K h
  obtain ⟨s, q, t, rfl, rfl, h⟩ := h
  refine metL (pr := lkB pX6_think) (rk := 0) (ct := ctb_X6_think) (fld := lkB flX6) (cst := lkB csX6) (cstL := lkB clX6) [] pX6_think_ok kX6_think.2.2.2.2.2.2.2 fdX6 cdX6 rto0 cok_X6_think (Nat.le_of_ble_eq_true rfl) cut0 ?_ l D σ cA sz
  conv => whnf
  refine ⟨s, q, t, qI q, tKe t, tP0 t, tTk t, tKi t, rfl, rfl, ?_⟩
  conv => whnf
  exact h (tSy t, tMr t, tTh t, tRd t, tPl t, tBd t, tSt t, tPi t, tLo t, tTo t, mx (enc s) (tKe t) 50, nI 50, 1, some 16, tDr t, tCe t, tGa t, tSd t, tBt t) (SK.rf t) (fun p hp => by show mx (enc s) (tKe t) 50 p = enc s p; rw [mx, if_pos hp])
def F_X6_again : Fn := fun as w K => ∃ (s s0 : InnS) (q : Pm) (t : Tm), as = [sR 0] ∧ w = modW s q t ∧ KP s0 t ∧ ZB s ∧ ZB s0 ∧ ∀ t', SK t t' → KP s0 t' → K none (modW (rsS s0 s) q t')
def ctb_X6_again : List (Nat × (List sv → List sc → (List sv → List sc → Prop) → Prop)) := [(6, cS (some 4) 3 F_X6_carryAllK0)]
theorem cok_X6_again : CallOK cX6_again 1 none RX6 3 ctb_X6_again := CallOK_cons (site_same (rnV (pX6_again_ok 6 _ rfl) ct_X6_carryAllK0 kX6_carryAll lRX6_211 (by decide))) (CallOK_nil)
theorem ct_X6_again : Ct yX6_again cX6_again 1 none 3 F_X6_again := by
  intro l D σ cA sz as w K h
  obtain ⟨s, s0, q, t, rfl, rfl, hk, hz, hz0, h⟩ := h
  refine metL (pr := lkB pX6_again) (rk := 0) (ct := ctb_X6_again) (fld := lkB flX6) (cst := lkB csX6) (cstL := lkB clX6) [] pX6_again_ok kX6_again.2.2.2.2.2.2.2 fdX6 cdX6 rto0 cok_X6_again (Nat.le_of_ble_eq_true rfl) cut0 ?_ l D σ cA sz
  conv => whnf
  refine ⟨s, s0, q, t, qI q, tKe t, tP0 t, tTk t, tKi t, rfl, rfl, hk, hz, hz0, ?_⟩
  conv => whnf
  exact h (tSy t, tMr t, tTh t, tRd t, tPl t, tBd t, tSt t, tPi t, tLo t, tTo t, tKe t, nI 50, 0, some 16, tDr t, tCe t, tGa t, tSd t, tBt t) (SK.rf t) hk
/-- no night is under way -/
def TZ (t : Tm) : Prop := tSy t = 0 ∧ tMr t = 0
theorem SK.tz {t t' : Tm} (h : SK t t') (hz : TZ t) : TZ t' := ⟨h.1.1.trans hz.1, h.1.2.1.trans hz.2⟩
theorem t0_w (s : InnS) (q : Pm) {t : Tm} (h : TZ t) : modW s q (t0S t) = modW s q t := by
  show modX s _ _ _ _ _ _ _ _ 0 0 _ _ _ _ _ _ _ _ _ _ _ _ _ _ _ _ _ = _
  rw [modW, h.1, h.2]
  rfl
def F_X6_goNights : Fn := fun as w K => ∃ (s : InnS) (q : Pm) (t : Tm) (n N : Nat), as = [sR 0, sI (nI n)] ∧ w = modW s q t ∧ TZ t ∧ GS s ∧ iN s = nI N ∧ N + n < 90000 ∧ K none (modW (nightsS n s) q t)
def ctb_X6_goNights : List (Nat × (List sv → List sc → (List sv → List sc → Prop) → Prop)) := [(8, cS (some 4) 1 F_X6_nightOn)]
theorem cok_X6_goNights : CallOK cX6_goNights 3 none RX6 5 ctb_X6_goNights := CallOK_cons (site_same (rnV (pX6_goNights_ok 8 _ rfl) ct_X6_nightOn kX6_nightOn lRX6_132 (by decide))) (CallOK_nil)
theorem ct_X6_goNights : Ct yX6_goNights cX6_goNights 3 none 5 F_X6_goNights := by
  intro l D σ cA sz as w K h
  obtain ⟨s, q, t, m, N, rfl, rfl, hT, hGS, hN, hN2, h⟩ := h
  refine metL (pr := lkB pX6_goNights) (rk := 0) (ct := ctb_X6_goNights) (fld := lkB flX6) (cst := lkB csX6) (cstL := lkB clX6) [(2, ([true, true, true], fun n lv st w => ∃ j, j ≤ m ∧ n = m - j ∧ lv = [some (sR 0), some (sI (nI m)), some (sI (nI j))] ∧ st = [] ∧ w = modW (nightsS j s) q t))] pX6_goNights_ok kX6_goNights.2.2.2.2.2.2.2 fdX6 cdX6 rto0 cok_X6_goNights (Nat.le_of_ble_eq_true rfl) ?_ ?_ l D σ cA sz
  · refine List.forall_mem_cons.mpr ⟨?_, cut0⟩
    rintro n lv st w ⟨j, hj, rfl, rfl, rfl, rfl⟩
    obtain ⟨g1, g2⟩ := nights_keep hGS hN j (by omega)
    have hsuc : nightsS (j + 1) s = nightS 0 0 (nightsS j s) := rfl
    conv => whnf
    refine ⟨fun hc => ?_, fun hc => ?_⟩
    · conv => whnf
      obtain rfl := lp_ge hj (by omega) hc
      exact h
    · have hjm := lp_lt hj (by omega) hc
      conv => whnf
      refine ⟨nightsS j s, q, t, N + j, rfl, rfl, g1, g2, by omega, ?_⟩
      rw [t0_w _ _ hT, hT.1, hT.2, ← hsuc]
      conv => whnf
      exact ⟨m - (j + 1), by omega, j + 1, hjm, rfl, by rw [← nI_1]; rfl, rfl, rfl⟩
  · skip
    repeat' ((conv => whnf); (first | refine And.intro (by first | decide | with_reducible assumption) ?_ | with_reducible refine And.intro (fun hc => ?_) (fun hc => ?_) | with_reducible refine And.intro (fun hc => ?_) ?_ | fail))
    all_goals try (conv => whnf)
    exact ⟨m, 0, Nat.zero_le _, rfl, rfl, rfl, rfl⟩
def F_X6_allPlates : Fn := fun as w K => ∃ (s : InnS) (q : Pm) (t : Tm), as = [sR 0] ∧ w = modW s q t ∧ K (some (.inl (bx_sum (iP s) 10))) w
def ctb_X6_allPlates : List (Nat × (List sv → List sc → (List sv → List sc → Prop) → Prop)) := []
theorem cok_X6_allPlates : CallOK cX6_allPlates 3 (some .int) RX6 1 ctb_X6_allPlates := CallOK_nil
theorem ct_X6_allPlates : Ct yX6_allPlates cX6_allPlates 3 (some .int) 1 F_X6_allPlates := by
  intro l D σ cA sz as w K h
  obtain ⟨s, q, t, rfl, rfl, h⟩ := h
  refine metL (pr := lkB pX6_allPlates) (rk := 1) (ct := ctb_X6_allPlates) (fld := lkB flX6) (cst := lkB csX6) (cstL := lkB clX6) [(4, ([true, true, true], fun n lv st w => ∃ j, j ≤ 10 ∧ n = 10 - j ∧ lv = [some (sR 0), some (sI (bx_sum (iP s) j)), some (sI (nI j))] ∧ st = [] ∧ w = modW s q t))] pX6_allPlates_ok kX6_allPlates.2.2.2.2.2.2.2 fdX6 cdX6 rto1 cok_X6_allPlates (Nat.le_of_ble_eq_true rfl) ?_ ?_ l D σ cA sz
  · refine List.forall_mem_cons.mpr ⟨?_, cut0⟩
    rintro n lv st w ⟨j, hj, rfl, rfl, rfl, rfl⟩
    conv => whnf
    refine ⟨fun hc => ?_, fun hc => ?_⟩
    · conv => whnf
      obtain rfl := lp_ge hj (by decide) hc
      exact h
    · have hlt := lp_lt hj (by decide) hc
      have hv : vp_in (nI j) 10 := vp_in_nI hlt (by decide)
      repeat' ((conv => whnf); (first | refine And.intro (by first | decide | with_reducible assumption) ?_ | with_reducible refine And.intro (fun hc => ?_) (fun hc => ?_) | with_reducible refine And.intro (fun hc => ?_) ?_ | fail))
      all_goals try (conv => whnf)
      exact ⟨10 - (j + 1), by omega, j + 1, hlt, rfl, by rw [← nI_1, nI_clamp (n := j) (by omega)]; rfl, rfl, rfl⟩
  · skip
    repeat' ((conv => whnf); (first | refine And.intro (by first | decide | with_reducible assumption) ?_ | with_reducible refine And.intro (fun hc => ?_) (fun hc => ?_) | with_reducible refine And.intro (fun hc => ?_) ?_ | fail))
    all_goals try (conv => whnf)
    exact ⟨10, 0, Nat.zero_le _, rfl, rfl, rfl, rfl⟩
def F_X6_dreamsNext : Fn := fun as w K => ∃ (s : InnS) (q : Pm) (t : Tm) (g : Int32), as = [sR 0, sI g] ∧ w = modW s q t ∧ vp_in g 7 ∧ 0 < iF s (ix g) + 2 ∧ K (some (.inl (ndS s g))) w
def ctb_X6_dreamsNext : List (Nat × (List sv → List sc → (List sv → List sc → Prop) → Prop)) := [(5, cS none 2 F_X6_hasBit), (19, cS (some 4) 3 F_X6_dreamsOf)]
theorem cok_X6_dreamsNext : CallOK cX6_dreamsNext 2 (some .int) RX6 2 ctb_X6_dreamsNext := CallOK_cons (site_same (rnS (pX6_dreamsNext_ok 5 _ rfl) ct_X6_hasBit kX6_hasBit lRX6_105 (by decide))) (CallOK_cons (site_same (rnV (pX6_dreamsNext_ok 19 _ rfl) ct_X6_dreamsOf kX6_dreamsOf lRX6_95 (by decide))) (CallOK_nil))
theorem ct_X6_dreamsNext : Ct yX6_dreamsNext cX6_dreamsNext 2 (some .int) 2 F_X6_dreamsNext := by
  intro l D σ cA sz as w K h
  obtain ⟨s, q, t, g, rfl, rfl, hg, hf, h⟩ := h
  have hf0 : ¬ iF s (ix g) + 2 = 0 := fun q => by rw [q] at hf; exact absurd hf (by decide)
  refine metL (pr := lkB pX6_dreamsNext) (rk := 1) (ct := ctb_X6_dreamsNext) (fld := lkB flX6) (cst := lkB csX6) (cstL := lkB clX6) [] pX6_dreamsNext_ok kX6_dreamsNext.2.2.2.2.2.2.2 fdX6 cdX6 rto1 cok_X6_dreamsNext (Nat.le_of_ble_eq_true rfl) cut0 ?_ l D σ cA sz
  conv => whnf
  refine ⟨fun hc => ?_, fun hc => ?_⟩
  · conv => whnf
    exact kI h (by unfold ndS; rw [if_neg (bp_0.mp hc)])
  · conv => whnf
    refine ⟨s, q, t, g, iN s + 1, rfl, rfl, hg, hf0, ?_⟩
    conv => whnf
    exact kI h (by unfold ndS; rw [if_pos (Classical.not_not.mp (fun q => hc (bp_0.mpr q)))])
