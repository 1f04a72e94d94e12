/-! ===== bestWish ===== -/
theorem nb_sn (s : InnS) (a b : Int32) : nbS (snS s a b) = nbS s := rfl
theorem iG_sn (s : InnS) (a b : Int32) : iG (snS s a b) = iG s := rfl
theorem night_sn (mare sil : Int32) (s : InnS) (a b : Int32) : nightS mare sil (snS s a b) = nightS mare sil s := by
  unfold nightS
  rw [nb_sn, iG_sn]
theorem nights_sn (s : InnS) (a b : Int32) : ∀ n, ∃ a' b', nightsS n (snS s a b) = snS (nightsS n s) a' b'
  | 0 => ⟨a, b, rfl⟩
  | n + 1 => by
    obtain ⟨a', b', e⟩ := nights_sn s a b n
    refine ⟨iSn (nightsS (n + 1) s), iLn (nightsS (n + 1) s), ?_⟩
    show nightS 0 0 (nightsS n (snS s a b)) = _
    rw [e, night_sn]
    rfl
/-- another wish -/
abbrev wbS (s : InnS) (g k : Int32) : InnS := (iK s, iF s, upd (iW s) (ix g) k, iL s, iH s, iP s, iG s, iT s, iN s, iS s, iA s, iSn s, iLn s)
theorem GS_ws {s : InnS} {g k : Int32} (h : GS s) (hk : rng 10 k) : GS (wbS s g k) := by
  refine ⟨fun j hj => ⟨(h.1 j hj).1, ?_, (h.1 j hj).2.2⟩, h.2⟩
  show rng 10 (upd (iW s) (ix g) k j)
  by_cases e : j = ix g
  · rw [e, pk_us]; exact hk
  · rw [pk_un e]; exact (h.1 j hj).2.1
theorem ZB_ws {s : InnS} {g k : Int32} (h : ZB s) (hg : ix g < 7) : ZB (wbS s g k) := by
  refine ⟨fun j hj => ⟨(h.1 j hj).1, (h.1 j hj).2.1, ?_, (h.1 j hj).2.2.2⟩, h.2⟩
  show upd (iW s) (ix g) k j = 0
  rw [pk_un (by omega)]; exact (h.1 j hj).2.2.1
noncomputable def bwV (s : InnS) (g : Int32) (n k : Nat) : Int32 := iH (nightsS n (wbS s g (nI k))) (ix g)
noncomputable def bwF (s : InnS) (g : Int32) (n : Nat) : Nat → Int32 × Int32
  | 0 => (0, -1)
  | k + 1 => if (bwF s g n k).2 < bwV s g n k then (nI k, bwV s g n k) else bwF s g n k
noncomputable def bwR (s : InnS) (g n what : Int32) : Int32 := if (0 ≤ g ∧ g ≤ iG s - 1) ∧ (0 ≤ n ∧ n ≤ 60) ∧ (0 ≤ what ∧ what ≤ 1) then (if what = 0 then (bwF s g (ix n) 10).1 else (bwF s g (ix n) 10).2) else -1
theorem ix_g {g : Int32} (h : vp_in g 7) : ix g < 7 := Nat.not_le.mp (fun q => h (Or.inr q))
def F_X5_bestWish : Fn := fun as w K => ∃ (r2 r3 r4 r5 : sv) (hi : Int32) (s m : InnS) (N : Nat) (g n what : Int32), as = [sR 0, sI g, sI n, sI what] ∧ w = x2W r2 r3 r4 r5 hi s m ∧ IV s N ∧ ZB m ∧ ∀ m', ZB m' → K (some (.inl (bwR s g n what))) (x2W r2 r3 r4 r5 hi s m')
def ctb_X5_bestWish : List (Nat × (List sv → List sc → (List sv → List sc → Prop) → Prop)) := [(5, cG [1, 2, 3, 4, 5, 6, 7] (some 0) 2 F_X0_knows), (12, cS none 1 F_X5_isWhile), (21, cS none 3 F_X5_within), (46, cS (some 3) 1 F_X5_inMind), (63, cG [8, 9, 10, 11, 12, 13, 14] (some 0) 2 F_X0_pass)]
theorem cok_X5_bestWish : CallOK cX5_bestWish 8 (some .int) RX5 6 ctb_X5_bestWish := CallOK_cons (site_gen [1, 2, 3, 4, 5, 6, 7] (by decide) (rnV (pX5_bestWish_ok 5 _ rfl) ct_X0_knows kX0_knows lRX5_80 (by decide))) (CallOK_cons (site_same (rnS (pX5_bestWish_ok 12 _ rfl) ct_X5_isWhile kX5_isWhile lRX5_148 (by decide))) (CallOK_cons (site_same (rnS (pX5_bestWish_ok 21 _ rfl) ct_X5_within kX5_within lRX5_129 (by decide))) (CallOK_cons (site_same (rnV (pX5_bestWish_ok 46 _ rfl) ct_X5_inMind kX5_inMind lRX5_58 (by decide))) (CallOK_cons (site_gen [8, 9, 10, 11, 12, 13, 14] (by decide) (rnV (pX5_bestWish_ok 63 _ rfl) ct_X0_pass kX0_pass lRX5_136 (by decide))) (CallOK_nil)))))
theorem ct_X5_bestWish : Ct yX5_bestWish cX5_bestWish 8 (some .int) 6 F_X5_bestWish := by
  intro l D σ cA sz as w K h
  obtain ⟨r2, r3, r4, r5, hi, s, m, N, g, n, what, rfl, rfl, ⟨hZ, hG, hN, hN9, hB⟩, hM, h⟩ := h
  have h0 := h m hM
  refine metL (pr := lkB pX5_bestWish) (rk := 1) (ct := ctb_X5_bestWish) (fld := lkB flX5) (cst := lkB csX5) (cstL := lkB clX5) [(38, ([true, true, true, true, true, true, true, false], fun x lv st w => ∃ (k : Nat) (m' : InnS), k ≤ 10 ∧ x = 10 - k ∧ ZB m' ∧ ((0 ≤ g ∧ g ≤ iG s - 1) ∧ (0 ≤ n ∧ n ≤ 60) ∧ (0 ≤ what ∧ what ≤ 1)) ∧ lv = [some (sR 0), some (sI g), some (sI n), some (sI what), some (sI (bwF s g (ix n) k).1), some (sI (bwF s g (ix n) k).2), some (sI (nI k)), none] ∧ st = [] ∧ w = x2W r2 r3 r4 r5 hi s m'))] pX5_bestWish_ok kX5_bestWish.2.2.2.2.2.2.2 fdX5 cdX5 rto1 cok_X5_bestWish (Nat.le_of_ble_eq_true rfl) ?_ ?_ l D σ cA sz
  · refine List.forall_mem_cons.mpr ⟨?_, cut0⟩
    rintro x lv st w ⟨k, m', hk, rfl, hM', hC, rfl, rfl, rfl⟩
    have hv := kn_in hG hC.1
    obtain ⟨n', hn', en⟩ := in_rng (n := 60) (by decide) hC.2.1
    have eix : ix n = n' := by rw [en]; exact nI_clamp (by omega)
    have hr : bwR s g n what = if what = 0 then (bwF s g n' 10).1 else (bwF s g n' 10).2 := by
      unfold bwR
      rw [if_pos hC, eix]
    rw [eix]
    conv => whnf
    refine ⟨fun hc => ?_, fun hc => ?_⟩
    · obtain rfl := lp_ge hk (by decide) hc
      repeat' ((conv => whnf); (first | refine And.intro (by first | decide | with_reducible assumption) ?_ | with_reducible refine And.intro (fun hc => ?_) (fun hc => ?_) | with_reducible refine And.intro (fun hc => ?_) ?_ | fail))
      all_goals try (conv => whnf)
      · exact kI (h _ hM') (by rw [hr, if_neg hc])
      · exact kI (h _ hM') (by rw [hr, if_pos hc])
    · have hlt := lp_lt hk (by decide) hc
      have hkr : rng 10 (nI k) := ⟨k, hlt, rfl⟩
      have hz := ZB_nights (ZB_ws (k := nI k) hZ (ix_g hv)) (GS_ws (g := g) hG hkr) (show iN (wbS s g (nI k)) = nI N from hN) n' (by omega)
      conv => whnf
      refine ⟨r2, r3, r4, r5, hi, s, m', rfl, rfl, hZ, hM', ?_⟩
      conv => whnf
      refine ⟨hv, ?_⟩
      conv => whnf
      refine ⟨wbS s g (nI k), n', N, by rw [en]; rfl, rfl, GS_ws hG hkr, hN, by omega, ?_⟩
      conv => whnf
      refine ⟨hv, ?_⟩
      conv => whnf
      refine ⟨fun h1 => ?_, fun h1 => ?_⟩
      · conv => whnf
        exact ⟨10 - (k + 1), by omega, k + 1, _, hlt, rfl, hz, hC, by rw [← nI_1, bwF, if_neg (show ¬ (bwF s g n' k).2 < bwV s g n' k from Int32.not_lt.mpr h1)]; rfl, rfl, rfl⟩
      · conv => whnf
        refine ⟨hv, ?_⟩
        conv => whnf
        exact ⟨10 - (k + 1), by omega, k + 1, _, hlt, rfl, hz, hC, by rw [← nI_1, bwF, if_pos (show (bwF s g n' k).2 < bwV s g n' k from Int32.not_le.mp h1)]; rfl, rfl, rfl⟩
  · conv => whnf
    refine ⟨s, g, rfl, rfl, ?_⟩
    conv => whnf
    refine ⟨fun hc => ?_, fun hc1 => ?_⟩
    · conv => whnf
      exact kI h0 (by unfold bwR; rw [if_neg (fun q => bp_0.mp hc q.1)])
    conv => whnf
    refine ⟨fun hc => ?_, fun hc2 => ?_⟩
    · conv => whnf
      exact kI h0 (by unfold bwR; rw [if_neg (fun q => bp_0.mp hc q.2.1)])
    conv => whnf
    refine ⟨fun hc3 => ?_, fun hc => ?_⟩
    rotate_left
    · conv => whnf
      exact kI h0 (by unfold bwR; rw [if_neg (fun q => bp_0.mp hc q.2.2)])
    conv => whnf
    exact ⟨10, 0, m, by decide, rfl, hM, ⟨bp_n hc1, bp_n hc2, bp_n hc3⟩, rfl, rfl, rfl⟩
def F_X6_bestWish : Fn := fun as w K => ∃ (s : InnS) (q : Pm) (t : Tm) (N : Nat) (g n what : Int32), as = [sR 0, sI g, sI n, sI what] ∧ w = modW s q t ∧ TZ t ∧ IV s N ∧ ∀ a b t', TZ t' → K (some (.inl (bwR s g n what))) (modW (snS s a b) q t')
def ctb_X6_bestWish : List (Nat × (List sv → List sc → (List sv → List sc → Prop) → Prop)) := [(7, cS (some 4) 2 F_X6_isOne), (19, cS none 3 F_X6_in), (29, cS none 3 F_X6_in), (44, cS (some 4) 1 F_X6_think), (67, cS (some 4) 2 F_X6_goNights), (79, cS (some 4) 1 F_X6_again)]
theorem cok_X6_bestWish : CallOK cX6_bestWish 8 (some .int) RX6 6 ctb_X6_bestWish := CallOK_cons (site_same (rnV (pX6_bestWish_ok 7 _ rfl) ct_X6_isOne kX6_isOne lRX6_171 (by decide))) (CallOK_cons (site_same (rnS (pX6_bestWish_ok 19 _ rfl) ct_X6_in kX6_in lRX6_81 (by decide))) (CallOK_cons (site_same (rnS (pX6_bestWish_ok 29 _ rfl) ct_X6_in kX6_in lRX6_81 (by decide))) (CallOK_cons (site_same (rnV (pX6_bestWish_ok 44 _ rfl) ct_X6_think kX6_think lRX6_190 (by decide))) (CallOK_cons (site_same (rnV (pX6_bestWish_ok 67 _ rfl) ct_X6_goNights kX6_goNights lRX6_168 (by decide))) (CallOK_cons (site_same (rnV (pX6_bestWish_ok 79 _ rfl) ct_X6_again kX6_again lRX6_196 (by decide))) (CallOK_nil))))))
theorem ct_X6_bestWish : Ct yX6_bestWish cX6_bestWish 8 (some .int) 6 F_X6_bestWish := by
  intro l D σ cA sz as w K h
  obtain ⟨s, q, t, N, g, n, what, rfl, rfl, hT, ⟨hZ, hG, hN, hN9, hB⟩, h⟩ := h
  have h0 := h (iSn s) (iLn s) (tq0 t) hT
  have hT0 : TZ (tq0 t) := hT
  refine metL (pr := lkB pX6_bestWish) (rk := 1) (ct := ctb_X6_bestWish) (fld := lkB flX6) (cst := lkB csX6) (cstL := lkB clX6) [(50, ([true, true, true, true, true, true, true, false], fun x lv st w => ∃ (k : Nat) (a b : Int32) (t1 : Tm), k ≤ 10 ∧ x = 10 - k ∧ ((0 ≤ g ∧ g ≤ iG s - 1) ∧ (0 ≤ n ∧ n ≤ 60) ∧ (0 ≤ what ∧ what ≤ 1)) ∧ TZ t1 ∧ KP s t1 ∧ lv = [some (sR 0), some (sI g), some (sI n), some (sI what), some (sI (bwF s g (ix n) k).1), some (sI (bwF s g (ix n) k).2), some (sI (nI k)), none] ∧ st = [] ∧ w = modW (snS s a b) q t1))] pX6_bestWish_ok kX6_bestWish.2.2.2.2.2.2.2 fdX6 cdX6 rto1 cok_X6_bestWish (Nat.le_of_ble_eq_true rfl) ?_ ?_ l D σ cA sz
  · refine List.forall_mem_cons.mpr ⟨?_, cut0⟩
    rintro x lv st w ⟨k, a, b, t1, hk, rfl, hC, hT1, hk1, rfl, rfl, rfl⟩
    have hv := kn_in hG hC.1
    obtain ⟨n', hn', en⟩ := in_rng (n := 60) (by decide) hC.2.1
    have eix : ix n = n' := by rw [en]; exact nI_clamp (by omega)
    have hr : bwR s g n what = if what = 0 then (bwF s g n' 10).1 else (bwF s g n' 10).2 := by
      unfold bwR
      rw [if_pos hC, eix]
    rw [eix]
    conv => whnf
    refine ⟨fun hc => ?_, fun hc => ?_⟩
    · obtain rfl := lp_ge hk (by decide) hc
      repeat' ((conv => whnf); (first | refine And.intro (by first | decide | with_reducible assumption) ?_ | with_reducible refine And.intro (fun hc => ?_) (fun hc => ?_) | with_reducible refine And.intro (fun hc => ?_) ?_ | fail))
      all_goals try (conv => whnf)
      · exact kI (h a b t1 hT1) (by rw [hr, if_neg hc])
      · exact kI (h a b t1 hT1) (by rw [hr, if_pos hc])
    · have hlt := lp_lt hk (by decide) hc
      have hkr : rng 10 (nI k) := ⟨k, hlt, rfl⟩
      obtain ⟨a', b', e1⟩ := nights_sn (wbS s g (nI k)) a b n'
      have hz : ZB (snS (nightsS n' (wbS s g (nI k))) a' b') := ZB_nights (ZB_ws (k := nI k) hZ (ix_g hv)) (GS_ws (g := g) hG hkr) (show iN (wbS s g (nI k)) = nI N from hN) n' (by omega)
      have hV : iH (snS (nightsS n' (wbS s g (nI k))) a' b') (ix g) = bwV s g n' k := rfl
      conv => whnf
      refine ⟨hv, ?_⟩
      conv => whnf
      refine ⟨snS (wbS s g (nI k)) a b, q, t1, n', N, by rw [en], rfl, hT1, GS_ws (g := g) hG hkr, hN, by omega, ?_⟩
      rw [e1]
      generalize hu : snS (nightsS n' (wbS s g (nI k))) a' b' = u at hz hV ⊢
      conv => whnf
      refine ⟨hv, ?_⟩
      conv => whnf
      refine ⟨u, s, q, t1, rfl, rfl, hk1, hz, hZ, fun t2 hs2 hk2 => ?_⟩
      rw [hV]
      conv => whnf
      refine ⟨fun h1 => ?_, fun h1 => ?_⟩
      · skip
        repeat' ((conv => whnf); (first | refine And.intro (by first | decide | with_reducible assumption) ?_ | with_reducible refine And.intro (fun hc => ?_) (fun hc => ?_) | with_reducible refine And.intro (fun hc => ?_) ?_ | fail))
        all_goals try (conv => whnf)
        · exact ⟨10 - (k + 1), by omega, k + 1, iSn u, iLn u, t2, hlt, rfl, hC, hs2.tz hT1, hk2, by rw [← nI_1, bwF, if_neg (show ¬ (bwF s g n' k).2 < bwV s g n' k from Int32.not_lt.mpr h1)]; rfl, rfl, rfl⟩
        · exact absurd h1 (by assumption)
      · skip
        repeat' ((conv => whnf); (first | refine And.intro (by first | decide | with_reducible assumption) ?_ | with_reducible refine And.intro (fun hc => ?_) (fun hc => ?_) | with_reducible refine And.intro (fun hc => ?_) ?_ | fail))
        all_goals try (conv => whnf)
        · exact absurd (by assumption) h1
        · exact ⟨10 - (k + 1), by omega, k + 1, iSn u, iLn u, t2, hlt, rfl, hC, hs2.tz hT1, hk2, by rw [← nI_1, bwF, if_pos (Int32.not_le.mp h1)]; rfl, rfl, rfl⟩
  · conv => whnf
    refine ⟨s, q, tq0 t, g, rfl, rfl, ?_⟩
    conv => whnf
    refine ⟨fun hc => ?_, fun hc1 => ?_⟩
    · conv => whnf
      exact kI h0 (by unfold bwR; rw [if_neg (fun q => bp_0.mp hc q.1)])
    conv => whnf
    refine ⟨fun hc => ?_, fun hc2 => ?_⟩
    · conv => whnf
      have hc := bp_0.mp ((in_ii 0 n 60).symm.trans hc)
      exact kI h0 (by unfold bwR; rw [if_neg (fun q => hc q.2.1)])
    conv => whnf
    refine ⟨fun hc3 => ?_, fun hc => ?_⟩
    rotate_left
    · conv => whnf
      have hc := bp_0.mp ((in_ii 0 what 1).symm.trans hc)
      exact kI h0 (by unfold bwR; rw [if_neg (fun q => hc q.2.2)])
    conv => whnf
    refine ⟨s, q, tq0 t, rfl, rfl, fun t1 hs1 hk1 => ?_⟩
    conv => whnf
    exact ⟨10, 0, iSn s, iLn s, t1, by decide, rfl, ⟨bp_n hc1, bp_n (fun z => hc2 ((in_ii 0 n 60).trans z)), bp_n (fun z => hc3 ((in_ii 0 what 1).trans z))⟩, hs1.tz hT0, hk1, rfl, rfl, rfl⟩
