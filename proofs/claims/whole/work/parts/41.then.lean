/-! ===== larderThen, then ===== -/
noncomputable def ltF (s : InnS) (k n : Int32) : Int32 := if (0 ≤ k ∧ k ≤ 9) ∧ (0 ≤ n ∧ n ≤ 60) then iP (nightsS (ix n) s) (ix k) else -1
noncomputable def thF (s : InnS) (n what : Int32) : Int32 := if (0 ≤ n ∧ n ≤ 60) ∧ (0 ≤ what ∧ what ≤ 2) then (if what = 0 then iT (nightsS (ix n) s) else if what = 1 then iS (nightsS (ix n) s) else iA (nightsS (ix n) s)) else -1
def F_X6_larderThen : Fn := fun as w K => ∃ (s : InnS) (q : Pm) (t : Tm) (N : Nat) (k n : Int32), as = [sR 0, sI k, sI n] ∧ w = modW s q t ∧ TZ t ∧ IV s N ∧ ∀ a b t', TZ t' → K (some (.inl (ltF s k n))) (modW (snS s a b) q t')
def ctb_X6_larderThen : List (Nat × (List sv → List sc → (List sv → List sc → Prop) → Prop)) := [(6, cS none 1 F_X6_isPlate), (18, cS none 3 F_X6_in), (27, cS (some 4) 1 F_X6_think), (32, cS (some 4) 2 F_X6_goNights), (43, cS (some 4) 1 F_X6_again)]
theorem cok_X6_larderThen : CallOK cX6_larderThen 4 (some .int) RX6 6 ctb_X6_larderThen := CallOK_cons (site_same (rnS (pX6_larderThen_ok 6 _ rfl) ct_X6_isPlate kX6_isPlate lRX6_220 (by decide))) (CallOK_cons (site_same (rnS (pX6_larderThen_ok 18 _ rfl) ct_X6_in kX6_in lRX6_81 (by decide))) (CallOK_cons (site_same (rnV (pX6_larderThen_ok 27 _ rfl) ct_X6_think kX6_think lRX6_190 (by decide))) (CallOK_cons (site_same (rnV (pX6_larderThen_ok 32 _ rfl) ct_X6_goNights kX6_goNights lRX6_168 (by decide))) (CallOK_cons (site_same (rnV (pX6_larderThen_ok 43 _ rfl) ct_X6_again kX6_again lRX6_196 (by decide))) (CallOK_nil)))))
theorem ct_X6_larderThen : Ct yX6_larderThen cX6_larderThen 4 (some .int) 6 F_X6_larderThen := by
  intro l D σ cA sz as w K h
  obtain ⟨s, q, t, N, k, n, rfl, rfl, hT, ⟨hZ, hG, hN, hN9, hB⟩, h⟩ := h
  have h0 := h (iSn s) (iLn s) (tq0 t) hT
  have hT0 : TZ (tq0 t) := hT
  refine metL (pr := lkB pX6_larderThen) (rk := 1) (ct := ctb_X6_larderThen) (fld := lkB flX6) (cst := lkB csX6) (cstL := lkB clX6) [] pX6_larderThen_ok kX6_larderThen.2.2.2.2.2.2.2 fdX6 cdX6 rto1 cok_X6_larderThen (Nat.le_of_ble_eq_true rfl) cut0 ?_ l D σ cA sz
  conv => whnf
  refine ⟨fun hc => ?_, fun hc1 => ?_⟩
  · conv => whnf
    exact kI h0 (by unfold ltF; rw [if_neg (fun q => bp_0.mp hc q.1)])
  conv => whnf
  refine ⟨fun hc2 => ?_, fun hc => ?_⟩
  rotate_left
  · conv => whnf
    have hc := (in_ii 0 n 60).symm.trans hc
    exact kI h0 (by unfold ltF; rw [if_neg (fun q => bp_0.mp hc q.2)])
  have c1 := bp_n hc1
  have c2 := bp_n (fun z => hc2 ((in_ii 0 n 60).trans z))
  obtain ⟨n', hn', en⟩ := in_rng (n := 60) (by decide) c2
  have eix : ix n = n' := by rw [en]; exact nI_clamp (by omega)
  have hr : ltF s k n = iP (nightsS n' s) (ix k) := by
    unfold ltF
    rw [if_pos ⟨c1, c2⟩, eix]
  have hz := ZB_nights hZ hG hN n' (by omega)
  conv => whnf
  refine ⟨s, q, tq0 t, rfl, rfl, fun t1 hs1 hk1 => ?_⟩
  conv => whnf
  refine ⟨s, q, t1, n', N, by rw [en], rfl, hs1.tz hT0, hG, hN, by omega, ?_⟩
  conv => whnf
  refine ⟨plate_in c1, ?_⟩
  conv => whnf
  refine ⟨nightsS n' s, s, q, t1, rfl, rfl, hk1, hz, hZ, fun t2 hs2 hk2 => ?_⟩
  conv => whnf
  exact kI (h (iSn (nightsS n' s)) (iLn (nightsS n' s)) t2 (hs2.tz (hs1.tz hT0))) hr
def F_X5_larderThen : Fn := fun as w K => ∃ (r2 r3 r4 r5 : sv) (hi : Int32) (s m : InnS) (N : Nat) (k n : Int32), as = [sR 0, sI k, sI n] ∧ w = x2W r2 r3 r4 r5 hi s m ∧ IV s N ∧ ZB m ∧ ∀ m', ZB m' → K (some (.inl (ltF s k n))) (x2W r2 r3 r4 r5 hi s m')
def ctb_X5_larderThen : List (Nat × (List sv → List sc → (List sv → List sc → Prop) → Prop)) := [(1, cS none 1 F_X5_isPlate), (8, cS none 1 F_X5_isWhile), (17, cS (some 3) 1 F_X5_inMind), (23, cG [8, 9, 10, 11, 12, 13, 14] (some 0) 2 F_X0_pass)]
theorem cok_X5_larderThen : CallOK cX5_larderThen 4 (some .int) RX5 6 ctb_X5_larderThen := CallOK_cons (site_same (rnS (pX5_larderThen_ok 1 _ rfl) ct_X5_isPlate kX5_isPlate lRX5_110 (by decide))) (CallOK_cons (site_same (rnS (pX5_larderThen_ok 8 _ rfl) ct_X5_isWhile kX5_isWhile lRX5_148 (by decide))) (CallOK_cons (site_same (rnV (pX5_larderThen_ok 17 _ rfl) ct_X5_inMind kX5_inMind lRX5_58 (by decide))) (CallOK_cons (site_gen [8, 9, 10, 11, 12, 13, 14] (by decide) (rnV (pX5_larderThen_ok 23 _ rfl) ct_X0_pass kX0_pass lRX5_136 (by decide))) (CallOK_nil))))
theorem ct_X5_larderThen : Ct yX5_larderThen cX5_larderThen 4 (some .int) 6 F_X5_larderThen := by
  intro l D σ cA sz as w K h
  obtain ⟨r2, r3, r4, r5, hi, s, m, N, k, n, rfl, rfl, ⟨hZ, hG, hN, hN9, hB⟩, hM, h⟩ := h
  have h0 := h m hM
  refine metL (pr := lkB pX5_larderThen) (rk := 1) (ct := ctb_X5_larderThen) (fld := lkB flX5) (cst := lkB csX5) (cstL := lkB clX5) [] pX5_larderThen_ok kX5_larderThen.2.2.2.2.2.2.2 fdX5 cdX5 rto1 cok_X5_larderThen (Nat.le_of_ble_eq_true rfl) cut0 ?_ l D σ cA sz
  conv => whnf
  refine ⟨fun hc => ?_, fun hc1 => ?_⟩
  · conv => whnf
    exact kI h0 (by unfold ltF; rw [if_neg (fun q => bp_0.mp hc q.1)])
  conv => whnf
  refine ⟨fun hc2 => ?_, fun hc => ?_⟩
  rotate_left
  · conv => whnf
    exact kI h0 (by unfold ltF; rw [if_neg (fun q => bp_0.mp hc q.2)])
  have c1 := bp_n hc1
  have c2 := bp_n hc2
  obtain ⟨n', hn', en⟩ := in_rng (n := 60) (by decide) c2
  have eix : ix n = n' := by rw [en]; exact nI_clamp (by omega)
  have hr : ltF s k n = iP (nightsS n' s) (ix k) := by
    unfold ltF
    rw [if_pos ⟨c1, c2⟩, eix]
  have hz := ZB_nights hZ hG hN n' (by omega)
  conv => whnf
  refine ⟨r2, r3, r4, r5, hi, s, m, rfl, rfl, hZ, hM, ?_⟩
  conv => whnf
  refine ⟨s, n', N, by rw [en]; rfl, rfl, hG, hN, by omega, ?_⟩
  conv => whnf
  refine ⟨plate_in c1, ?_⟩
  conv => whnf
  exact kI (h _ hz) hr
def F_X6_then : Fn := fun as w K => ∃ (s : InnS) (q : Pm) (t : Tm) (N : Nat) (n what : Int32), as = [sR 0, sI n, sI what] ∧ w = modW s q t ∧ TZ t ∧ IV s N ∧ ∀ a b t', TZ t' → K (some (.inl (thF s n what))) (modW (snS s a b) q t')
def ctb_X6_then : List (Nat × (List sv → List sc → (List sv → List sc → Prop) → Prop)) := [(11, cS none 3 F_X6_in), (23, cS none 3 F_X6_in), (32, cS (some 4) 1 F_X6_think), (37, cS (some 4) 2 F_X6_goNights), (69, cS (some 4) 1 F_X6_again)]
theorem cok_X6_then : CallOK cX6_then 4 (some .int) RX6 6 ctb_X6_then := CallOK_cons (site_same (rnS (pX6_then_ok 11 _ rfl) ct_X6_in kX6_in lRX6_81 (by decide))) (CallOK_cons (site_same (rnS (pX6_then_ok 23 _ rfl) ct_X6_in kX6_in lRX6_81 (by decide))) (CallOK_cons (site_same (rnV (pX6_then_ok 32 _ rfl) ct_X6_think kX6_think lRX6_190 (by decide))) (CallOK_cons (site_same (rnV (pX6_then_ok 37 _ rfl) ct_X6_goNights kX6_goNights lRX6_168 (by decide))) (CallOK_cons (site_same (rnV (pX6_then_ok 69 _ rfl) ct_X6_again kX6_again lRX6_196 (by decide))) (CallOK_nil)))))
theorem ct_X6_then : Ct yX6_then cX6_then 4 (some .int) 6 F_X6_then := by
  intro l D σ cA sz as w K h
  obtain ⟨s, q, t, N, n, what, rfl, rfl, hT, ⟨hZ, hG, hN, hN9, hB⟩, h⟩ := h
  have h0 := h (iSn s) (iLn s) (tq0 t) hT
  have hT0 : TZ (tq0 t) := hT
  refine metL (pr := lkB pX6_then) (rk := 1) (ct := ctb_X6_then) (fld := lkB flX6) (cst := lkB csX6) (cstL := lkB clX6) [] pX6_then_ok kX6_then.2.2.2.2.2.2.2 fdX6 cdX6 rto1 cok_X6_then (Nat.le_of_ble_eq_true rfl) cut0 ?_ l D σ cA sz
  conv => whnf
  refine ⟨fun hc => ?_, fun hc1 => ?_⟩
  · conv => whnf
    have hc := (in_ii 0 n 60).symm.trans hc
    exact kI h0 (by unfold thF; rw [if_neg (fun q => bp_0.mp hc q.1)])
  conv => whnf
  refine ⟨fun hc2 => ?_, fun hc => ?_⟩
  rotate_left
  · conv => whnf
    have hc := (in_ii 0 what 2).symm.trans hc
    exact kI h0 (by unfold thF; rw [if_neg (fun q => bp_0.mp hc q.2)])
  have c1 := bp_n (fun z => hc1 ((in_ii 0 n 60).trans z))
  have c2 := bp_n (fun z => hc2 ((in_ii 0 what 2).trans z))
  obtain ⟨n', hn', en⟩ := in_rng (n := 60) (by decide) c1
  have eix : ix n = n' := by rw [en]; exact nI_clamp (by omega)
  have hr : thF s n what = if what = 0 then iT (nightsS n' s) else if what = 1 then iS (nightsS n' s) else iA (nightsS n' s) := by
    unfold thF
    rw [if_pos ⟨c1, c2⟩, eix]
  have hz := ZB_nights hZ hG hN n' (by omega)
  conv => whnf
  refine ⟨s, q, tq0 t, rfl, rfl, fun t1 hs1 hk1 => ?_⟩
  conv => whnf
  refine ⟨s, q, t1, n', N, by rw [en], rfl, hs1.tz hT0, hG, hN, by omega, ?_⟩
  repeat' ((conv => whnf); (first | refine And.intro (by first | decide | with_reducible assumption) ?_ | with_reducible refine And.intro (fun hc => ?_) (fun hc => ?_) | with_reducible refine And.intro (fun hc => ?_) ?_ | fail))
  all_goals try (conv => whnf)
  · refine ⟨nightsS n' s, s, q, t1, rfl, rfl, hk1, hz, hZ, fun t2 hs2 hk2 => ?_⟩
    conv => whnf
    exact kI (h (iSn (nightsS n' s)) (iLn (nightsS n' s)) t2 (hs2.tz (hs1.tz hT0))) (by rw [hr, if_neg (by assumption), if_neg (by assumption)])
  · refine ⟨nightsS n' s, s, q, t1, rfl, rfl, hk1, hz, hZ, fun t2 hs2 hk2 => ?_⟩
    conv => whnf
    exact kI (h (iSn (nightsS n' s)) (iLn (nightsS n' s)) t2 (hs2.tz (hs1.tz hT0))) (by rw [hr, if_neg (by assumption), if_pos (by assumption)])
  · refine ⟨nightsS n' s, s, q, t1, rfl, rfl, hk1, hz, hZ, fun t2 hs2 hk2 => ?_⟩
    conv => whnf
    exact kI (h (iSn (nightsS n' s)) (iLn (nightsS n' s)) t2 (hs2.tz (hs1.tz hT0))) (by rw [hr, if_pos (by assumption)])
def F_X5_then : Fn := fun as w K => ∃ (r2 r3 r4 r5 : sv) (hi : Int32) (s m : InnS) (N : Nat) (n what : Int32), as = [sR 0, sI n, sI what] ∧ w = x2W r2 r3 r4 r5 hi s m ∧ IV s N ∧ ZB m ∧ ∀ m', ZB m' → K (some (.inl (thF s n what))) (x2W r2 r3 r4 r5 hi s m')
def ctb_X5_then : List (Nat × (List sv → List sc → (List sv → List sc → Prop) → Prop)) := [(1, cS none 1 F_X5_isWhile), (10, cS none 3 F_X5_within), (19, cS (some 3) 1 F_X5_inMind), (25, cG [8, 9, 10, 11, 12, 13, 14] (some 0) 2 F_X0_pass)]
theorem cok_X5_then : CallOK cX5_then 4 (some .int) RX5 6 ctb_X5_then := CallOK_cons (site_same (rnS (pX5_then_ok 1 _ rfl) ct_X5_isWhile kX5_isWhile lRX5_148 (by decide))) (CallOK_cons (site_same (rnS (pX5_then_ok 10 _ rfl) ct_X5_within kX5_within lRX5_129 (by decide))) (CallOK_cons (site_same (rnV (pX5_then_ok 19 _ rfl) ct_X5_inMind kX5_inMind lRX5_58 (by decide))) (CallOK_cons (site_gen [8, 9, 10, 11, 12, 13, 14] (by decide) (rnV (pX5_then_ok 25 _ rfl) ct_X0_pass kX0_pass lRX5_136 (by decide))) (CallOK_nil))))
theorem ct_X5_then : Ct yX5_then cX5_then 4 (some .int) 6 F_X5_then := by
  intro l D σ cA sz as w K h
  obtain ⟨r2, r3, r4, r5, hi, s, m, N, n, what, rfl, rfl, ⟨hZ, hG, hN, hN9, hB⟩, hM, h⟩ := h
  have h0 := h m hM
  refine metL (pr := lkB pX5_then) (rk := 1) (ct := ctb_X5_then) (fld := lkB flX5) (cst := lkB csX5) (cstL := lkB clX5) [] pX5_then_ok kX5_then.2.2.2.2.2.2.2 fdX5 cdX5 rto1 cok_X5_then (Nat.le_of_ble_eq_true rfl) cut0 ?_ l D σ cA sz
  conv => whnf
  refine ⟨fun hc => ?_, fun hc1 => ?_⟩
  · conv => whnf
    exact kI h0 (by unfold thF; rw [if_neg (fun q => bp_0.mp hc q.1)])
  conv => whnf
  refine ⟨fun hc2 => ?_, fun hc => ?_⟩
  rotate_left
  · conv => whnf
    exact kI h0 (by unfold thF; rw [if_neg (fun q => bp_0.mp hc q.2)])
  have c1 := bp_n hc1
  have c2 := bp_n hc2
  obtain ⟨n', hn', en⟩ := in_rng (n := 60) (by decide) c1
  have eix : ix n = n' := by rw [en]; exact nI_clamp (by omega)
  have hr : thF s n what = if what = 0 then iT (nightsS n' s) else if what = 1 then iS (nightsS n' s) else iA (nightsS n' s) := by
    unfold thF
    rw [if_pos ⟨c1, c2⟩, eix]
  have hz := ZB_nights hZ hG hN n' (by omega)
  conv => whnf
  refine ⟨r2, r3, r4, r5, hi, s, m, rfl, rfl, hZ, hM, ?_⟩
  conv => whnf
  refine ⟨s, n', N, by rw [en]; rfl, rfl, hG, hN, by omega, ?_⟩
  repeat' ((conv => whnf); (first | refine And.intro (by first | decide | with_reducible assumption) ?_ | with_reducible refine And.intro (fun hc => ?_) (fun hc => ?_) | with_reducible refine And.intro (fun hc => ?_) ?_ | fail))
  all_goals try (conv => whnf)
  · exact kI (h _ hz) (by rw [hr, if_neg (by assumption), if_neg (by assumption)])
  · exact kI (h _ hz) (by rw [hr, if_neg (by assumption), if_pos (by assumption)])
  · exact kI (h _ hz) (by rw [hr, if_pos (by assumption)])
