/-! ===== nights, image, restore ===== -/
theorem n60 {n : Int32} (h : 1 ≤ n ∧ n ≤ 60) : ∃ j, 1 ≤ j ∧ j ≤ 60 ∧ n = nI j := by
  have h0 : ¬ n < 0 := fun q => absurd (Int32.lt_of_lt_of_le q (by decide : (0 : Int32) ≤ 1)) (Int32.not_lt.mpr h.1)
  obtain ⟨j, hj, hx⟩ := nI_of2 (M := 60) (n := 60) rfl h0 h.2
  refine ⟨j, ?_, hj, hx⟩
  rw [hx] at h
  exact (nI_leI (by decide) (by omega)).mp (show nI 1 ≤ nI j from h.1)
def F_X6_nights : Fn := fun as w K => ∃ (s : InnS) (q : Pm) (t : Tm) (N : Nat) (n : Int32), as = [sR 0, sI n] ∧ w = modW s q t ∧ TZ t ∧ IV s N ∧ ∀ a b t', TZ t' → K (some (.inl (niR s n))) (modW (snS (niS s n) a b) q t')
def ctb_X6_nights : List (Nat × (List sv → List sc → (List sv → List sc → Prop) → Prop)) := [(11, cS none 3 F_X6_in), (36, cS (some 4) 2 F_X6_goNights), (43, cS none 1 F_X6_onesOf)]
theorem cok_X6_nights : CallOK cX6_nights 2 (some .int) RX6 6 ctb_X6_nights := CallOK_cons (site_same (rnS (pX6_nights_ok 11 _ rfl) ct_X6_in kX6_in lRX6_81 (by decide))) (CallOK_cons (site_same (rnV (pX6_nights_ok 36 _ rfl) ct_X6_goNights kX6_goNights lRX6_168 (by decide))) (CallOK_cons (site_same (rnS (pX6_nights_ok 43 _ rfl) ct_X6_onesOf kX6_onesOf lRX6_228 (by decide))) (CallOK_nil)))
theorem ct_X6_nights : Ct yX6_nights cX6_nights 2 (some .int) 6 F_X6_nights := by
  intro l D σ cA sz as w K h
  obtain ⟨s, q, t, N, n, rfl, rfl, hT, ⟨hZ, hG, hN, hN9, hB⟩, h⟩ := h
  refine metL (pr := lkB pX6_nights) (rk := 1) (ct := ctb_X6_nights) (fld := lkB flX6) (cst := lkB csX6) (cstL := lkB clX6) [] pX6_nights_ok kX6_nights.2.2.2.2.2.2.2 fdX6 cdX6 rto1 cok_X6_nights (Nat.le_of_ble_eq_true rfl) cut0 ?_ l D σ cA sz
  conv => whnf
  refine ⟨fun hc1 => ?_, fun hc => ?_⟩
  rotate_left
  · conv => whnf
    have hc := bp_0.mp ((in_ii 1 n 60).symm.trans hc)
    rw [niR, niS, if_neg hc, if_neg (fun q => hc q.1)] at h
    exact h (iSn s) (iLn s) (tq0 t) hT
  have c1 := bp_n (fun z => hc1 ((in_ii 1 n 60).trans z))
  obtain ⟨n', hn1, hn6, en⟩ := n60 c1
  rw [niR, if_pos c1] at h
  conv => whnf
  refine ⟨fun hc => ?_, fun hc => ?_⟩
  · have hlt : ¬ 999 < iN s + n := Int32.not_lt.mpr hc
    rw [niS, if_neg hlt, if_pos ⟨c1, hlt⟩, show ix n = n' by rw [en]; exact nI_clamp (by omega)] at h
    conv => whnf
    refine ⟨s, q, tq0 t, n', N, by rw [en], rfl, hT, hG, hN, by omega, ?_⟩
    conv => whnf
    refine ⟨TB_nights hB n', ?_⟩
    conv => whnf
    exact h (iSn (nightsS n' s)) (iLn (nightsS n' s)) (tq0 t) hT
  · have hlt : 999 < iN s + n := Int32.not_le.mp hc
    rw [niS, if_pos hlt, if_neg (fun q => q.2 hlt)] at h
    conv => whnf
    exact h (iSn s) (iLn s) (tq0 t) hT
def F_X5_nights : Fn := fun as w K => ∃ (r1 r2 r3 r4 r5 : sv) (hi : Int32) (s : InnS) (N : Nat) (n : Int32), as = [sR 0, sI n] ∧ w = x1W r1 r2 r3 r4 r5 hi s ∧ IV s N ∧ K (some (.inl (niR s n))) (x1W r1 r2 r3 r4 r5 hi (niS s n))
def ctb_X5_nights : List (Nat × (List sv → List sc → (List sv → List sc → Prop) → Prop)) := [(4, cS none 3 F_X5_within), (35, cG [1, 2, 3, 4, 5, 6, 7] (some 0) 2 F_X0_pass), (45, cS none 1 F_J6_bitCount_0f7a4)]
theorem cok_X5_nights : CallOK cX5_nights 2 (some .int) RX5 6 ctb_X5_nights := CallOK_cons (site_same (rnS (pX5_nights_ok 4 _ rfl) ct_X5_within kX5_within lRX5_129 (by decide))) (CallOK_cons (site_gen [1, 2, 3, 4, 5, 6, 7] (by decide) (rnV (pX5_nights_ok 35 _ rfl) ct_X0_pass kX0_pass lRX5_136 (by decide))) (CallOK_cons (site_same (rnS (pX5_nights_ok 45 _ rfl) ct_J6_bitCount_0f7a4 kJ6_bitCount_0f7a4 lRX5_143 (by decide))) (CallOK_nil)))
theorem ct_X5_nights : Ct yX5_nights cX5_nights 2 (some .int) 6 F_X5_nights := by
  intro l D σ cA sz as w K h
  obtain ⟨r1, r2, r3, r4, r5, hi, s, N, n, rfl, rfl, ⟨hZ, hG, hN, hN9, hB⟩, h⟩ := h
  refine metL (pr := lkB pX5_nights) (rk := 1) (ct := ctb_X5_nights) (fld := lkB flX5) (cst := lkB csX5) (cstL := lkB clX5) [] pX5_nights_ok kX5_nights.2.2.2.2.2.2.2 fdX5 cdX5 rto1 cok_X5_nights (Nat.le_of_ble_eq_true rfl) cut0 ?_ l D σ cA sz
  conv => whnf
  refine ⟨fun hc1 => ?_, fun hc => ?_⟩
  rotate_left
  · conv => whnf
    have hc := bp_0.mp hc
    rw [niR, niS, if_neg hc, if_neg (fun q => hc q.1)] at h
    exact h
  have c1 := bp_n hc1
  obtain ⟨n', hn1, hn6, en⟩ := n60 c1
  rw [niR, if_pos c1] at h
  conv => whnf
  refine ⟨fun hc => ?_, fun hc => ?_⟩
  · have hlt : ¬ 999 < iN s + n := Int32.not_lt.mpr hc
    rw [niS, if_neg hlt, if_pos ⟨c1, hlt⟩, show ix n = n' by rw [en]; exact nI_clamp (by omega)] at h
    conv => whnf
    refine ⟨s, n', N, by rw [en]; rfl, rfl, hG, hN, by omega, ?_⟩
    conv => whnf
    refine ⟨TB_nights hB n', ?_⟩
    conv => whnf
    exact h
  · have hlt : 999 < iN s + n := Int32.not_le.mp hc
    rw [niS, if_pos hlt, if_neg (fun q => q.2 hlt)] at h
    conv => whnf
    exact h
/-- the object, the inn as it is, the image -/
def x3W (r1 r3 r4 r5 : sv) (hi : Int32) (s k : InnS) : List sc := oC 3 [sR 1, r1, sR 8, sI hi, r3, r4, r5] :: (innB1 s ++ innB8 k)
def F_X5_image : Fn := fun as w K => ∃ (r1 r3 r4 r5 : sv) (hi : Int32) (s k : InnS), as = [sR 0] ∧ w = x3W r1 r3 r4 r5 hi s k ∧ ZB s ∧ ZB k ∧ K (some (.inl (iN s))) (x3W r1 r3 r4 r5 1 s s)
def ctb_X5_image : List (Nat × (List sv → List sc → (List sv → List sc → Prop) → Prop)) := [(8, cG [8, 9, 10, 11, 12, 13, 14, 1, 2, 3, 4, 5, 6, 7] (some 0) 2 F_X0_become)]
theorem cok_X5_image : CallOK cX5_image 1 (some .int) RX5 2 ctb_X5_image := CallOK_cons (site_gen [8, 9, 10, 11, 12, 13, 14, 1, 2, 3, 4, 5, 6, 7] (by decide) (rnV (pX5_image_ok 8 _ rfl) ct_X0_become kX0_become lRX5_76 (by decide))) (CallOK_nil)
theorem ct_X5_image : Ct yX5_image cX5_image 1 (some .int) 2 F_X5_image := by
  intro l D σ cA sz as w K h
  obtain ⟨r1, r3, r4, r5, hi, s, k, rfl, rfl, hZ, hK, h⟩ := h
  refine metL (pr := lkB pX5_image) (rk := 1) (ct := ctb_X5_image) (fld := lkB flX5) (cst := lkB csX5) (cstL := lkB clX5) [] pX5_image_ok kX5_image.2.2.2.2.2.2.2 fdX5 cdX5 rto1 cok_X5_image (Nat.le_of_ble_eq_true rfl) cut0 ?_ l D σ cA sz
  conv => whnf
  refine ⟨k, s, rfl, rfl, hK, hZ, ?_⟩
  repeat' ((conv => whnf); (first | refine And.intro (by first | decide | with_reducible assumption) ?_ | with_reducible refine And.intro (fun hc => ?_) (fun hc => ?_) | with_reducible refine And.intro (fun hc => ?_) ?_ | fail))
  all_goals try (conv => whnf)
  exact h
def F_X5_restore : Fn := fun as w K => ∃ (r1 r3 r4 r5 : sv) (hi : Int32) (s k : InnS), as = [sR 0] ∧ w = x3W r1 r3 r4 r5 hi s k ∧ ZB s ∧ ZB k ∧ (hi = 0 → K (some (.inl (-3))) w) ∧ (¬ hi = 0 → K (some (.inl (iN k))) (x3W r1 r3 r4 r5 hi k k))
def ctb_X5_restore : List (Nat × (List sv → List sc → (List sv → List sc → Prop) → Prop)) := [(18, cG [1, 2, 3, 4, 5, 6, 7, 8, 9, 10, 11, 12, 13, 14] (some 0) 2 F_X0_become)]
theorem cok_X5_restore : CallOK cX5_restore 1 (some .int) RX5 2 ctb_X5_restore := CallOK_cons (site_gen [1, 2, 3, 4, 5, 6, 7, 8, 9, 10, 11, 12, 13, 14] (by decide) (rnV (pX5_restore_ok 18 _ rfl) ct_X0_become kX0_become lRX5_76 (by decide))) (CallOK_nil)
theorem ct_X5_restore : Ct yX5_restore cX5_restore 1 (some .int) 2 F_X5_restore := by
  intro l D σ cA sz as w K h
  obtain ⟨r1, r3, r4, r5, hi, s, k, rfl, rfl, hZ, hK, h1, h2⟩ := h
  refine metL (pr := lkB pX5_restore) (rk := 1) (ct := ctb_X5_restore) (fld := lkB flX5) (cst := lkB csX5) (cstL := lkB clX5) [] pX5_restore_ok kX5_restore.2.2.2.2.2.2.2 fdX5 cdX5 rto1 cok_X5_restore (Nat.le_of_ble_eq_true rfl) cut0 ?_ l D σ cA sz
  conv => whnf
  refine ⟨fun hc => ?_, fun hc => ?_⟩
  · conv => whnf
    refine ⟨s, k, rfl, rfl, hZ, hK, ?_⟩
    conv => whnf
    exact h2 hc
  · conv => whnf
    exact h1 hc
def F_X6_image : Fn := fun as w K => ∃ (s : InnS) (q : Pm) (t : Tm), as = [sR 0] ∧ w = modW s q t ∧ TZ t ∧ ∀ im' t', (∀ p, p < 50 → im' p = enc s p) → TZ t' → K (some (.inl (iN s))) (modW s (qH q, qK q, qF q, qS q, qM q, qR q, im', 1) t')
def ctb_X6_image : List (Nat × (List sv → List sc → (List sv → List sc → Prop) → Prop)) := [(16, cS (some 4) 3 F_X6_carryAllI1)]
theorem cok_X6_image : CallOK cX6_image 1 (some .int) RX6 3 ctb_X6_image := CallOK_cons (site_same (rnV (pX6_image_ok 16 _ rfl) ct_X6_carryAllI1 kX6_carryAll lRX6_211 (by decide))) (CallOK_nil)
theorem ct_X6_image : Ct yX6_image cX6_image 1 (some .int) 3 F_X6_image := by
  intro l D σ cA sz as w K h
  obtain ⟨s, q, t, rfl, rfl, hT, h⟩ := h
  refine metL (pr := lkB pX6_image) (rk := 1) (ct := ctb_X6_image) (fld := lkB flX6) (cst := lkB csX6) (cstL := lkB clX6) [] pX6_image_ok kX6_image.2.2.2.2.2.2.2 fdX6 cdX6 rto1 cok_X6_image (Nat.le_of_ble_eq_true rfl) cut0 ?_ l D σ cA sz
  repeat' ((conv => whnf); (first | refine And.intro (by first | decide | with_reducible assumption) ?_ | with_reducible refine And.intro (fun hc => ?_) (fun hc => ?_) | with_reducible refine And.intro (fun hc => ?_) ?_ | fail))
  all_goals try (conv => whnf)
  refine ⟨s, (qH q, qK q, qF q, qS q, qM q, qR q, qI q, 1), tq0 t, qI q, tKe t, tP0 t, tTk t, tKi t, rfl, rfl, ?_⟩
  conv => whnf
  exact h (mx (enc s) (qI q) 50) (tSy t, tMr t, 0, tRd t, tPl t, tBd t, tSt t, tPi t, tLo t, tTo t, tKe t, nI 50, 1, some 17, tDr t, tCe t, tGa t, tSd t, tBt t) (fun p hp => by rw [mx, if_pos hp]) hT
def F_X6_restore : Fn := fun as w K => ∃ (s s0 : InnS) (q : Pm) (t : Tm), as = [sR 0] ∧ w = modW s q t ∧ TZ t ∧ ZB s ∧ ZB s0 ∧ (¬ qB q = 0 → ∀ p, p < 50 → qI q p = enc s0 p) ∧ (qB q = 0 → ∀ a b t', TZ t' → K (some (.inl (-3))) (modW (snS s a b) q t')) ∧ (¬ qB q = 0 → ∀ a b t', TZ t' → K (some (.inl (iN s0))) (modW (snS s0 a b) q t'))
def ctb_X6_restore : List (Nat × (List sv → List sc → (List sv → List sc → Prop) → Prop)) := [(21, cS (some 4) 3 F_X6_carryAllI0)]
theorem cok_X6_restore : CallOK cX6_restore 1 (some .int) RX6 3 ctb_X6_restore := CallOK_cons (site_same (rnV (pX6_restore_ok 21 _ rfl) ct_X6_carryAllI0 kX6_carryAll lRX6_211 (by decide))) (CallOK_nil)
theorem ct_X6_restore : Ct yX6_restore cX6_restore 1 (some .int) 3 F_X6_restore := by
  intro l D σ cA sz as w K h
  obtain ⟨s, s0, q, t, rfl, rfl, hT, hZ, hZ0, hI, h1, h2⟩ := h
  refine metL (pr := lkB pX6_restore) (rk := 1) (ct := ctb_X6_restore) (fld := lkB flX6) (cst := lkB csX6) (cstL := lkB clX6) [] pX6_restore_ok kX6_restore.2.2.2.2.2.2.2 fdX6 cdX6 rto1 cok_X6_restore (Nat.le_of_ble_eq_true rfl) cut0 ?_ l D σ cA sz
  conv => whnf
  refine ⟨fun hc => ?_, fun hc => ?_⟩
  · conv => whnf
    refine ⟨s, s0, q, tq0 t, qI q, tKe t, tP0 t, tTk t, tKi t, rfl, rfl, hI hc, hZ, hZ0, ?_⟩
    conv => whnf
    exact h2 hc (iSn s) (iLn s) (tSy t, tMr t, 0, tRd t, tPl t, tBd t, tSt t, tPi t, tLo t, tTo t, tKe t, nI 50, 0, some 17, tDr t, tCe t, tGa t, tSd t, tBt t) hT
  · conv => whnf
    exact h1 hc (iSn s) (iLn s) (tq0 t) hT
