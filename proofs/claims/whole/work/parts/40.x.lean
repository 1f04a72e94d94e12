/-! ===== the class: its own cells ===== -/
def innB1 (s : InnS) : List sc := [oC 0 [sR 2, sR 3, sR 4, sR 5, sR 6, sR 7, sI (iG s), sI (iT s), sI (iN s), sI (iS s), sI (iA s), sI (iSn s), sI (iLn s)], aI 7 (iK s), aI 7 (iF s), aI 7 (iW s), aI 7 (iL s), aI 7 (iH s), aI 10 (iP s)]
def innB8 (s : InnS) : List sc := [oC 0 [sR 9, sR 10, sR 11, sR 12, sR 13, sR 14, sI (iG s), sI (iT s), sI (iN s), sI (iS s), sI (iA s), sI (iSn s), sI (iLn s)], aI 7 (iK s), aI 7 (iF s), aI 7 (iW s), aI 7 (iL s), aI 7 (iH s), aI 10 (iP s)]
/-- the object and the inn as it is; and the inn in mind -/
def x1W (r1 r2 r3 r4 r5 : sv) (hi : Int32) (s : InnS) : List sc := oC 3 [sR 1, r1, r2, sI hi, r3, r4, r5] :: innB1 s
def x2W (r2 r3 r4 r5 : sv) (hi : Int32) (s m : InnS) : List sc := oC 3 [sR 1, sR 8, r2, sI hi, r3, r4, r5] :: (innB1 s ++ innB8 m)
def F_X5_larder : Fn := fun as w K => ∃ (r1 r2 r3 r4 r5 : sv) (hi : Int32) (s : InnS) (k : Int32), as = [sR 0, sI k] ∧ w = x1W r1 r2 r3 r4 r5 hi s ∧ K (some (.inl (laF s k))) w
def ctb_X5_larder : List (Nat × (List sv → List sc → (List sv → List sc → Prop) → Prop)) := [(1, cS none 1 F_X5_isPlate)]
theorem cok_X5_larder : CallOK cX5_larder 2 (some .int) RX5 3 ctb_X5_larder := CallOK_cons (site_same (rnS (pX5_larder_ok 1 _ rfl) ct_X5_isPlate kX5_isPlate lRX5_110 (by decide))) (CallOK_nil)
theorem ct_X5_larder : Ct yX5_larder cX5_larder 2 (some .int) 3 F_X5_larder := by
  intro l D σ cA sz as w K h
  obtain ⟨r1, r2, r3, r4, r5, hi, s, k, rfl, rfl, h⟩ := h
  refine metL (pr := lkB pX5_larder) (rk := 1) (ct := ctb_X5_larder) (fld := lkB flX5) (cst := lkB csX5) (cstL := lkB clX5) [] pX5_larder_ok kX5_larder.2.2.2.2.2.2.2 fdX5 cdX5 rto1 cok_X5_larder (Nat.le_of_ble_eq_true rfl) cut0 ?_ l D σ cA sz
  conv => whnf
  refine ⟨fun hc => ?_, fun hc => ?_⟩
  · conv => whnf
    exact kI h (by unfold laF; rw [if_neg (bp_0.mp hc)])
  · conv => whnf
    refine ⟨plate_in (bp_n hc), ?_⟩
    conv => whnf
    exact kI h (by unfold laF; rw [if_pos (bp_n hc)])
def F_X5_inMind : Fn := fun as w K => ∃ (r2 r3 r4 r5 : sv) (hi : Int32) (s m : InnS), as = [sR 0] ∧ w = x2W r2 r3 r4 r5 hi s m ∧ ZB s ∧ ZB m ∧ K (some (sR 8)) (x2W r2 r3 r4 r5 hi s s)
def ctb_X5_inMind : List (Nat × (List sv → List sc → (List sv → List sc → Prop) → Prop)) := [(8, cG [8, 9, 10, 11, 12, 13, 14, 1, 2, 3, 4, 5, 6, 7] (some 0) 2 F_X0_become)]
theorem cok_X5_inMind : CallOK cX5_inMind 1 (some (.object "ServesWhatOneDreamt$Inn")) RX5 2 ctb_X5_inMind := CallOK_cons (site_gen [8, 9, 10, 11, 12, 13, 14, 1, 2, 3, 4, 5, 6, 7] (by decide) (rnV (pX5_inMind_ok 8 _ rfl) ct_X0_become kX0_become lRX5_76 (by decide))) (CallOK_nil)
theorem ct_X5_inMind : Ct yX5_inMind cX5_inMind 1 (some (.object "ServesWhatOneDreamt$Inn")) 2 F_X5_inMind := by
  intro l D σ cA sz as w K h
  obtain ⟨r2, r3, r4, r5, hi, s, m, rfl, rfl, hZ, hM, h⟩ := h
  refine metL (pr := lkB pX5_inMind) (rk := 4) (ct := ctb_X5_inMind) (fld := lkB flX5) (cst := lkB csX5) (cstL := lkB clX5) [] pX5_inMind_ok kX5_inMind.2.2.2.2.2.2.2 fdX5 cdX5 (rto4 _) cok_X5_inMind (Nat.le_of_ble_eq_true rfl) cut0 ?_ l D σ cA sz
  conv => whnf
  refine ⟨m, s, rfl, rfl, hM, hZ, ?_⟩
  conv => whnf
  trace_state
  sorry
