/-! ===== guest, wishes, heals, fills, count ===== -/
theorem ofI0 : Int32.ofInt 0 = 0 ∧ Int32.ofInt (0 + 1) = 1 ∧ Int32.ofInt (0 + 1 + 1) = 2 ∧ Int32.ofInt (0 + 1 + 1 + 1) = 3 ∧ Int32.ofInt (0 + 1 + 1 + 1 + 1) = 4 ∧ Int32.ofInt (0 + 1 + 1 + 1 + 1 + 1) = 5 ∧ Int32.ofInt (0 + 1 + 1 + 1 + 1 + 1 + 1) = 6 ∧ Int32.ofInt (0 + 1 + 1 + 1 + 1 + 1 + 1 + 1) = 7 := by decide
theorem out07 {k : Int32} (h : k.toInt < 0 ∨ 7 < k.toInt) : k ≠ 0 ∧ k ≠ 1 ∧ k ≠ 2 ∧ k ≠ 3 ∧ k ≠ 4 ∧ k ≠ 5 ∧ k ≠ 6 ∧ k ≠ 7 := by
  refine ⟨?_, ?_, ?_, ?_, ?_, ?_, ?_, ?_⟩ <;> (rintro rfl; revert h; decide)
theorem out06 {k : Int32} (h : k.toInt < 0 ∨ 6 < k.toInt) (h7 : 0 ≤ k ∧ k ≤ 7) : k = 7 := by
  rw [i32_le, i32_le] at h7
  rw [i32_eq]
  have e0 : (0 : Int32).toInt = 0 := rfl
  have e7 : (7 : Int32).toInt = 7 := rfl
  rw [e0, e7] at h7
  rw [e7]; omega
theorem out05 {k : Int32} (h : k.toInt < 0 ∨ 5 < k.toInt) : k ≠ 0 ∧ k ≠ 1 ∧ k ≠ 2 ∧ k ≠ 3 ∧ k ≠ 4 ∧ k ≠ 5 := by
  refine ⟨?_, ?_, ?_, ?_, ?_, ?_⟩ <;> (rintro rfl; revert h; decide)
noncomputable def guW (s : InnS) (g what : Int32) : Int32 := if what = 0 then iK s (ix g) else if what = 1 then iF s (ix g) else if what = 2 then iW s (ix g) else if what = 3 then iL s (ix g) else if what = 4 then iH s (ix g) else if what = 5 then bp (tb (iT s) g) else if what = 6 then eatsK (iK s (ix g)) else if what = 7 then gainK (iK s (ix g)) (iF s (ix g)) (iW s (ix g)) (iL s (ix g)) + 10 else -1
noncomputable def guF (s : InnS) (g what : Int32) : Int32 := if 0 ≤ g ∧ g ≤ iG s - 1 then guW s g what else -1
def F_X6_guest : Fn := fun as w K => ∃ (s : InnS) (q : Pm) (t : Tm) (N : Nat) (g what : Int32), as = [sR 0, sI g, sI what] ∧ w = modW s q t ∧ TZ t ∧ IV s N ∧ ∀ a b t', TZ t' → K (some (.inl (guF s g what))) (modW (snS s a b) q t')
def ctb_X6_guest : List (Nat × (List sv → List sc → (List sv → List sc → Prop) → Prop)) := [(7, cS (some 4) 2 F_X6_isOne), (19, cS none 3 F_X6_in), (112, cS none 2 F_X6_hasBit), (126, cS (some 4) 2 F_X6_eatsOf), (138, cS (some 4) 3 F_X6_gainsOf)]
theorem cok_X6_guest : CallOK cX6_guest 3 (some .int) RX6 3 ctb_X6_guest := CallOK_cons (site_same (rnV (pX6_guest_ok 7 _ rfl) ct_X6_isOne kX6_isOne lRX6_171 (by decide))) (CallOK_cons (site_same (rnS (pX6_guest_ok 19 _ rfl) ct_X6_in kX6_in lRX6_81 (by decide))) (CallOK_cons (site_same (rnS (pX6_guest_ok 112 _ rfl) ct_X6_hasBit kX6_hasBit lRX6_105 (by decide))) (CallOK_cons (site_same (rnV (pX6_guest_ok 126 _ rfl) ct_X6_eatsOf kX6_eatsOf lRX6_109 (by decide))) (CallOK_cons (site_same (rnV (pX6_guest_ok 138 _ rfl) ct_X6_gainsOf kX6_gainsOf lRX6_113 (by decide))) (CallOK_nil)))))
theorem ct_X6_guest : Ct yX6_guest cX6_guest 3 (some .int) 3 F_X6_guest := by
  intro l D σ cA sz as w K h
  obtain ⟨s, q, t, N, g, what, rfl, rfl, hT, ⟨hZ, hG, hN, hN9, hB⟩, h⟩ := h
  have h0 := h (iSn s) (iLn s) (tq0 t) hT
  clear h
  refine metL (pr := lkB pX6_guest) (rk := 1) (ct := ctb_X6_guest) (fld := lkB flX6) (cst := lkB csX6) (cstL := lkB clX6) [] pX6_guest_ok kX6_guest.2.2.2.2.2.2.2 fdX6 cdX6 rto1 cok_X6_guest (Nat.le_of_ble_eq_true rfl) cut0 ?_ l D σ cA sz
  conv => whnf
  refine ⟨s, q, tq0 t, g, rfl, rfl, ?_⟩
  conv => whnf
  refine ⟨fun hc => ?_, fun hc1 => ?_⟩
  · conv => whnf
    exact kI h0 (by unfold guF; rw [if_neg (bp_0.mp hc)])
  have c1 := bp_n hc1
  obtain ⟨G, hG7, hGG⟩ := hG.2.1
  obtain ⟨j, hj, ej⟩ := kn hG7 (by rw [← hGG]; exact c1)
  have hv : vp_in g 7 := by rw [ej]; exact vp_in_nI (by omega) (by decide)
  have hr : guF s g what = guW s g what := by unfold guF; rw [if_pos c1]
  rw [hr] at h0
  clear hr
  conv => whnf
  refine ⟨fun hc2 => ?_, fun hc => ?_⟩
  rotate_left
  · conv => whnf
    have hc := bp_0.mp ((in_ii 0 what 7).symm.trans hc)
    refine kI h0 ?_
    clear h0
    unfold guW
    rw [if_neg (fun q => hc (by rw [q]; decide)), if_neg (fun q => hc (by rw [q]; decide)), if_neg (fun q => hc (by rw [q]; decide)), if_neg (fun q => hc (by rw [q]; decide)), if_neg (fun q => hc (by rw [q]; decide)), if_neg (fun q => hc (by rw [q]; decide)), if_neg (fun q => hc (by rw [q]; decide)), if_neg (fun q => hc (by rw [q]; decide))]
  have c2 := bp_n (fun z => hc2 ((in_ii 0 what 7).trans z))
  conv => whnf
  refine ⟨fun hc => ?_, ?_⟩
  · obtain rfl := out06 hc c2
    conv => whnf
    refine ⟨hv, ?_⟩
    conv => whnf
    refine ⟨s, q, tq0 t, g, iW s (ix g), rfl, rfl, hv, ?_⟩
    conv => whnf
    exact h0
  repeat' ((conv => whnf); (first | refine And.intro (by first | decide | with_reducible assumption) ?_ | with_reducible refine And.intro (fun hc => ?_) (fun hc => ?_) | with_reducible refine And.intro (fun hc => ?_) ?_ | fail))
  all_goals try (conv => whnf)
  all_goals first | trivial | (refine kI h0 ?_; clear h0; simp_all [guW, ofI0, bp_t, bp_f]; done) | skip
  · refine kI h0 ?_
    have h5 := bp_t (bp_n hc)
    clear h0
    simp_all [guW, ofI0]
  · refine ⟨s, q, tq0 t, g, rfl, rfl, hv, ?_⟩
    conv => whnf
    refine kI h0 ?_
    clear h0
    simp_all [guW, ofI0]
def F_X5_guest : Fn := fun as w K => ∃ (r1 r2 r3 r4 r5 : sv) (hi : Int32) (s : InnS) (N : Nat) (g what : Int32), as = [sR 0, sI g, sI what] ∧ w = x1W r1 r2 r3 r4 r5 hi s ∧ IV s N ∧ K (some (.inl (guF s g what))) w
def ctb_X5_guest : List (Nat × (List sv → List sc → (List sv → List sc → Prop) → Prop)) := [(5, cG [1, 2, 3, 4, 5, 6, 7] (some 0) 2 F_X0_knows), (115, cG [1, 2, 3, 4, 5, 6, 7] (some 0) 2 F_X0_isThere), (136, cS none 1 F_X1_eats), (178, cS none 4 F_X1_gain)]
theorem cok_X5_guest : CallOK cX5_guest 3 (some .int) RX5 3 ctb_X5_guest := CallOK_cons (site_gen [1, 2, 3, 4, 5, 6, 7] (by decide) (rnV (pX5_guest_ok 5 _ rfl) ct_X0_knows kX0_knows lRX5_80 (by decide))) (CallOK_cons (site_gen [1, 2, 3, 4, 5, 6, 7] (by decide) (rnV (pX5_guest_ok 115 _ rfl) ct_X0_isThere kX0_isThere lRX5_98 (by decide))) (CallOK_cons (site_same (rnS (pX5_guest_ok 136 _ rfl) ct_X1_eats kX1_eats lRX5_101 (by decide))) (CallOK_cons (site_same (rnS (pX5_guest_ok 178 _ rfl) ct_X1_gain kX1_gain lRX5_106 (by decide))) (CallOK_nil))))
theorem ct_X5_guest : Ct yX5_guest cX5_guest 3 (some .int) 3 F_X5_guest := by
  intro l D σ cA sz as w K h
  obtain ⟨r1, r2, r3, r4, r5, hi, s, N, g, what, rfl, rfl, ⟨hZ, hG, hN, hN9, hB⟩, h0⟩ := h
  refine metL (pr := lkB pX5_guest) (rk := 1) (ct := ctb_X5_guest) (fld := lkB flX5) (cst := lkB csX5) (cstL := lkB clX5) [] pX5_guest_ok kX5_guest.2.2.2.2.2.2.2 fdX5 cdX5 rto1 cok_X5_guest (Nat.le_of_ble_eq_true rfl) cut0 ?_ l D σ cA sz
  conv => whnf
  refine ⟨s, g, rfl, rfl, ?_⟩
  conv => whnf
  refine ⟨fun hc1 => ?_, fun hc => ?_⟩
  rotate_left
  · conv => whnf
    exact kI h0 (by unfold guF; rw [if_neg (bp_0.mp hc)])
  have c1 := bp_n hc1
  obtain ⟨G, hG7, hGG⟩ := hG.2.1
  obtain ⟨j, hj, ej⟩ := kn hG7 (by rw [← hGG]; exact c1)
  have hv : vp_in g 7 := by rw [ej]; exact vp_in_nI (by omega) (by decide)
  have hwi : rng 10 (iW s (ix g)) := by
    rw [ej, show ix (nI j) = j from nI_clamp (by omega)]
    exact (hG.1 j (by omega)).2.1
  have hr : guF s g what = guW s g what := by unfold guF; rw [if_pos c1]
  rw [hr] at h0
  clear hr
  repeat' ((conv => whnf); (first | refine And.intro (by first | decide | with_reducible assumption) ?_ | with_reducible refine And.intro (fun hc => ?_) (fun hc => ?_) | with_reducible refine And.intro (fun hc => ?_) ?_ | fail))
  all_goals try (conv => whnf)
  all_goals first | trivial | (refine kI h0 ?_; clear h0; simp_all [guW, ofI0, bp_t, bp_f]; done) | skip
  · refine kI h0 ?_
    have a := out07 hc
    clear h0
    simp_all [guW]
  · refine ⟨s, g, rfl, rfl, ?_⟩
    repeat' ((conv => whnf); (first | refine And.intro (by first | decide | with_reducible assumption) ?_ | with_reducible refine And.intro (fun hc => ?_) (fun hc => ?_) | with_reducible refine And.intro (fun hc => ?_) ?_ | fail))
    all_goals try (conv => whnf)
    · refine kI h0 ?_
      have h5 := bp_f (bp_0.mp hc)
      clear h0
      simp_all [guW, ofI0]
    · refine kI h0 ?_
      have h5 := bp_t (bp_n hc)
      clear h0
      simp_all [guW, ofI0]
  · refine kI h0 ?_
    clear h0
    simp_all [guW, ofI0, Int32.add_comm]
