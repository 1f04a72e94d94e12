/-! ===== the class: its own cells ===== -/
def innB1 (s : InnS) : List sc := [oC 0 [sR 2, sR 3, sR 4, sR 5, sR 6, sR 7, sI (iG s), sI (iT s), sI (iN s), sI (iS s), sI (iA s), sI (iSn s), sI (iLn s)], aI 7 (iK s), aI 7 (iF s), aI 7 (iW s), aI 7 (iL s), aI 7 (iH s), aI 10 (iP s)]
def innB8 (s : InnS) : List sc := [oC 0 [sR 9, sR 10, sR 11, sR 12, sR 13, sR 14, sI (iG s), sI (iT s), sI (iN s), sI (iS s), sI (iA s), sI (iSn s), sI (iLn s)], aI 7 (iK s), aI 7 (iF s), aI 7 (iW s), aI 7 (iL s), aI 7 (iH s), aI 10 (iP s)]
/-- the object and the inn as it is; and the inn in mind -/
def x1W (r1 r2 r3 r4 r5 : sv) (hi : Int32) (s : InnS) : List sc := oC 3 [sR 1, r1, r2, sI hi, r3, r4, r5] :: innB1 s
def x2W (r2 r3 r4 r5 : sv) (hi : Int32) (s m : InnS) : List sc := oC 3 [sR 1, sR 8, r2, sI hi, r3, r4, r5] :: (innB1 s ++ innB8 m)
def F_X5_larder : Fn := fun as w K => ∃ (r1 r2 r3 r4 r5 : sv) (hi : Int32) (s : InnS) (k : Int32), as = [sR 0, sI k] ∧ w = x1W r1 r2 r3 r4 r5 hi s ∧ K (some (.inl (laF s k))) w
def ctb_X5_larder : List (Nat × (List sv → List sc → (List sv → List sc → Prop) → Prop)) := [(1, cS none 1 F_X5_isPlate)]
theorem cok_X5_larder : CallOK cX5_larder 2 (some .int) RX5 3 ctb_X5_larder := CallOK_cons (site_same (rnS (pX5_larder_ok 1 _ rfl) ct_X5_isPlate kX5_isPlate lRX5_110 (by decide))) (CallOK_nil)
theorem ct_X5_larder : Ct yX5_larder cX5_larder 2 (some .int) 3 F_X5_larder := by
  intro l D σ cA sz as w K h
  obtain ⟨r1, r2, r3, r4, r5, hi, s, k, rfl, rfl, h⟩ := h
  refine metL (pr := lkB pX5_larder) (rk := 1) (ct := ctb_X5_larder) (fld := lkB flX5) (cst := lkB csX5) (cstL := lkB clX5) [] pX5_larder_ok kX5_larder.2.2.2.2.2.2.2 fdX5 cdX5 rto1 cok_X5_larder (Nat.le_of_ble_eq_true rfl) cut0 ?_ l D σ cA sz
  conv => whnf
  refine ⟨fun hc => ?_, fun hc => ?_⟩
  · conv => whnf
    exact kI h (by unfold laF; rw [if_neg (bp_0.mp hc)])
  · conv => whnf
    refine ⟨plate_in (bp_n hc), ?_⟩
    conv => whnf
    exact kI h (by unfold laF; rw [if_pos (bp_n hc)])
def F_X5_inMind : Fn := fun as w K => ∃ (r2 r3 r4 r5 : sv) (hi : Int32) (s m : InnS), as = [sR 0] ∧ w = x2W r2 r3 r4 r5 hi s m ∧ ZB s ∧ ZB m ∧ K (some (sR 8)) (x2W r2 r3 r4 r5 hi s s)
def ctb_X5_inMind : List (Nat × (List sv → List sc → (List sv → List sc → Prop) → Prop)) := [(8, cG [8, 9, 10, 11, 12, 13, 14, 1, 2, 3, 4, 5, 6, 7] (some 0) 2 F_X0_become)]
theorem cok_X5_inMind : CallOK cX5_inMind 1 (some (.object "ServesWhatOneDreamt$Inn")) RX5 2 ctb_X5_inMind := CallOK_cons (site_gen [8, 9, 10, 11, 12, 13, 14, 1, 2, 3, 4, 5, 6, 7] (by decide) (rnV (pX5_inMind_ok 8 _ rfl) ct_X0_become kX0_become lRX5_76 (by decide))) (CallOK_nil)
theorem ct_X5_inMind : Ct yX5_inMind cX5_inMind 1 (some (.object "ServesWhatOneDreamt$Inn")) 2 F_X5_inMind := by
  intro l D σ cA sz as w K h
  obtain ⟨r2, r3, r4, r5, hi, s, m, rfl, rfl, hZ, hM, h⟩ := h
  refine metL (pr := lkB pX5_inMind) (rk := 4) (ct := ctb_X5_inMind) (fld := lkB flX5) (cst := lkB csX5) (cstL := lkB clX5) [] pX5_inMind_ok kX5_inMind.2.2.2.2.2.2.2 fdX5 cdX5 (rto4 _) cok_X5_inMind (Nat.le_of_ble_eq_true rfl) cut0 ?_ l D σ cA sz
  conv => whnf
  refine ⟨m, s, rfl, rfl, hM, hZ, ?_⟩
  conv => whnf
  exact h
def F_X5_guestThen : Fn := fun as w K => ∃ (r2 r3 r4 r5 : sv) (hi : Int32) (s m : InnS) (N : Nat) (g n what : Int32), as = [sR 0, sI g, sI n, sI what] ∧ w = x2W r2 r3 r4 r5 hi s m ∧ IV s N ∧ ZB m ∧ ∀ m', ZB m' → K (some (.inl (gtF s g n what))) (x2W r2 r3 r4 r5 hi s m')
def ctb_X5_guestThen : List (Nat × (List sv → List sc → (List sv → List sc → Prop) → Prop)) := [(5, cG [1, 2, 3, 4, 5, 6, 7] (some 0) 2 F_X0_knows), (12, cS none 1 F_X5_isWhile), (21, cS none 3 F_X5_within), (30, cS (some 3) 1 F_X5_inMind), (38, cG [8, 9, 10, 11, 12, 13, 14] (some 0) 2 F_X0_pass)]
theorem cok_X5_guestThen : CallOK cX5_guestThen 5 (some .int) RX5 6 ctb_X5_guestThen := CallOK_cons (site_gen [1, 2, 3, 4, 5, 6, 7] (by decide) (rnV (pX5_guestThen_ok 5 _ rfl) ct_X0_knows kX0_knows lRX5_80 (by decide))) (CallOK_cons (site_same (rnS (pX5_guestThen_ok 12 _ rfl) ct_X5_isWhile kX5_isWhile lRX5_148 (by decide))) (CallOK_cons (site_same (rnS (pX5_guestThen_ok 21 _ rfl) ct_X5_within kX5_within lRX5_129 (by decide))) (CallOK_cons (site_same (rnV (pX5_guestThen_ok 30 _ rfl) ct_X5_inMind kX5_inMind lRX5_58 (by decide))) (CallOK_cons (site_gen [8, 9, 10, 11, 12, 13, 14] (by decide) (rnV (pX5_guestThen_ok 38 _ rfl) ct_X0_pass kX0_pass lRX5_136 (by decide))) (CallOK_nil)))))
theorem ct_X5_guestThen : Ct yX5_guestThen cX5_guestThen 5 (some .int) 6 F_X5_guestThen := by
  intro l D σ cA sz as w K h
  obtain ⟨r2, r3, r4, r5, hi, s, m, N, g, n, what, rfl, rfl, ⟨hZ, hG, hN, hN9, hB⟩, hM, h⟩ := h
  have h0 := h m hM
  refine metL (pr := lkB pX5_guestThen) (rk := 1) (ct := ctb_X5_guestThen) (fld := lkB flX5) (cst := lkB csX5) (cstL := lkB clX5) [] pX5_guestThen_ok kX5_guestThen.2.2.2.2.2.2.2 fdX5 cdX5 rto1 cok_X5_guestThen (Nat.le_of_ble_eq_true rfl) cut0 ?_ l D σ cA sz
  conv => whnf
  refine ⟨s, g, rfl, rfl, ?_⟩
  conv => whnf
  refine ⟨fun hc => ?_, fun hc1 => ?_⟩
  · conv => whnf
    exact kI h0 (by unfold gtF; rw [if_neg (fun q => bp_0.mp hc q.1)])
  conv => whnf
  refine ⟨fun hc => ?_, fun hc2 => ?_⟩
  · conv => whnf
    exact kI h0 (by unfold gtF; rw [if_neg (fun q => bp_0.mp hc q.2.1)])
  conv => whnf
  refine ⟨fun hc3 => ?_, fun hc => ?_⟩
  rotate_left
  · conv => whnf
    exact kI h0 (by unfold gtF; rw [if_neg (fun q => bp_0.mp hc q.2.2)])
  have c1 := bp_n hc1
  have c2 := bp_n hc2
  have c3 := bp_n hc3
  obtain ⟨G, hG7, hGG⟩ := hG.2.1
  obtain ⟨j, hj, ej⟩ := kn hG7 (by rw [← hGG]; exact c1)
  obtain ⟨n', hn', en⟩ := in_rng (n := 60) (by decide) c2
  have hv : vp_in g 7 := by rw [ej]; exact vp_in_nI (by omega) (by decide)
  have eix : ix n = n' := by rw [en]; exact nI_clamp (by omega)
  have hr : gtF s g n what = if what = 0 then iH (nightsS n' s) (ix g) else iL (nightsS n' s) (ix g) := by
    unfold gtF
    rw [if_pos ⟨c1, c2, c3⟩, eix]
  have hz := ZB_nights hZ hG hN n' (by omega)
  conv => whnf
  refine ⟨r2, r3, r4, r5, hi, s, m, rfl, rfl, hZ, hM, ?_⟩
  conv => whnf
  refine ⟨s, n', N, by rw [en]; rfl, rfl, hG, hN, by omega, ?_⟩
  conv => whnf
  refine ⟨fun hw => ?_, fun hw => ?_⟩
  · conv => whnf
    refine ⟨hv, ?_⟩
    conv => whnf
    exact kI (h _ hz) (by rw [hr, if_neg hw])
  · conv => whnf
    refine ⟨hv, ?_⟩
    conv => whnf
    exact kI (h _ hz) (by rw [hr, if_pos hw])
