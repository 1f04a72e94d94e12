/-! ===== whatIs, whatWish ===== -/
noncomputable def wsN (what : Int32) : Nat := if what = 0 then 8 else 10
def wiP (s : InnS) (u : ShS) (g what : Int32) (n k : Nat) : Prop := hsP u (wyS what s g (nI k)) (ix g) n
def wvP (s : InnS) (u : ShS) (g : Int32) (n k : Nat) : Prop := lsP u (wbS s g (nI k)) (ix g) n
noncomputable def wsF (s : InnS) (u : ShS) (d g what : Int32) : Int32 := if (0 ≤ g ∧ g ≤ iG s - 1) ∧ (0 ≤ what ∧ what ≤ 1) then (if reF u d 2 = 0 then bwB (wiP s u g what (ix (uM u))) (wsN what) else reF u d 2) else -1
theorem GS_wy {what : Int32} {s : InnS} {g k : Int32} (h : GS s) (hk : ¬ what = 0 → rng 10 k) : GS (wyS what s g k) := by
  unfold wyS
  split
  · exact GS_wk h
  · exact GS_wf h (hk (by assumption))
theorem ZB_wy {what : Int32} {s : InnS} {g k : Int32} (h : ZB s) (hg : ix g < 7) : ZB (wyS what s g k) := by
  unfold wyS
  split
  · exact ZB_wk h hg
  · exact ZB_wf h hg
theorem wsN_le (what : Int32) : wsN what ≤ 10 := by unfold wsN; split <;> decide
def F_X5_whatIs : Fn := fun as w K => ∃ (r2 r4 r5 : sv) (hi : Int32) (s m : InnS) (f : Nat → Option Nat) (u : ShS) (N : Nat) (d g what : Int32), as = [sR 0, sI d, sI g, sI what] ∧ w = xS r2 r4 r5 hi s m f u ∧ (0 ≤ d ∧ d ≤ 7 → f (ix d) = some 16 ∧ SH u) ∧ IV s N ∧ ZB m ∧ ∀ m', ZB m' → K (some (.inl (wsF s u d g what))) (xS r2 r4 r5 hi s m' f u)
def ctb_X5_whatIs : List (Nat × (List sv → List sc → (List sv → List sc → Prop) → Prop)) := [(5, cQ [1, 2, 3, 4, 5, 6, 7] (some 0) 2 F_X0_knows), (14, cS none 3 F_X5_within), (24, cS (some 3) 2 F_X5_rowRefusal), (64, cS (some 3) 1 F_X5_inMindE), (103, cG [16, 17, 8, 9, 10, 11, 12, 13, 14] none 3 F_X5_healthsAreSo)]
theorem cok_X5_whatIs : CallOK cX5_whatIs 10 (some .int) RX5 7 ctb_X5_whatIs := CallOK_cons (site_q [1, 2, 3, 4, 5, 6, 7] (by decide) (rnV (pX5_whatIs_ok 5 _ rfl) ct_X0_knows kX0_knows lRX5_80 (by decide))) (CallOK_cons (site_same (rnS (pX5_whatIs_ok 14 _ rfl) ct_X5_within kX5_within lRX5_129 (by decide))) (CallOK_cons (site_same (rnV (pX5_whatIs_ok 24 _ rfl) ct_X5_rowRefusal kX5_rowRefusal lRX5_44 (by decide))) (CallOK_cons (site_same (rnV (pX5_whatIs_ok 64 _ rfl) ct_X5_inMindE kX5_inMind lRX5_58 (by decide))) (CallOK_cons (site_gen [16, 17, 8, 9, 10, 11, 12, 13, 14] (by decide) (rnS (pX5_whatIs_ok 103 _ rfl) ct_X5_healthsAreSo kX5_healthsAreSo lRX5_212 (by decide))) (CallOK_nil)))))
theorem ct_X5_whatIs : Ct yX5_whatIs cX5_whatIs 10 (some .int) 7 F_X5_whatIs := by
  intro l D σ cA sz as w K h
  obtain ⟨r2, r4, r5, hi, s, m, f, u, N, d, g, what, rfl, rfl, hf, ⟨hZ, hG, hN, hN9, hB⟩, hM, h⟩ := h
  refine metL (pr := lkB pX5_whatIs) (rk := 1) (ct := ctb_X5_whatIs) (fld := lkB flX5) (cst := lkB csX5) (cstL := lkB clX5) [(56, ([true, true, true, true, false, true, true, true, false, false], fun x lv st w => ∃ (k n : Nat) (m' : InnS), k ≤ wsN what ∧ x = wsN what - k ∧ n ≤ 100 ∧ uM u = nI n ∧ ix (uM u) = n ∧ ((0 ≤ g ∧ g ≤ iG s - 1) ∧ (0 ≤ what ∧ what ≤ 1)) ∧ reF u d 2 = 0 ∧ ZB m' ∧ lv = [some (sR 0), some (sI d), some (sI g), some (sI what), none, some (sI (bwB (wiP s u g what n) k)), some (sI (nI (wsN what))), some (sI (nI k)), none, none] ∧ st = [] ∧ w = xS r2 r4 r5 hi s m' f u))] pX5_whatIs_ok kX5_whatIs.2.2.2.2.2.2.2 fdX5 cdX5 rto1 cok_X5_whatIs (Nat.le_of_ble_eq_true rfl) ?_ ?_ l D σ cA sz
  · refine List.forall_mem_cons.mpr ⟨?_, cut0⟩
    rintro x lv st w ⟨k, n, m', hk, rfl, hn, eM, eN, hC, hre, hM', rfl, rfl, rfl⟩
    have hv := kn_in hG hC.1
    have hr : wsF s u d g what = bwB (wiP s u g what n) (wsN what) := by unfold wsF; rw [if_pos hC, if_pos hre, eN]
    have hd := (re_0 hre).1
    have hw10 := wsN_le what
    conv => whnf
    refine ⟨fun hc => ?_, fun hc => ?_⟩
    · have ek := lp_ge hk (by omega) hc
      conv => whnf
      exact kI (h _ hM') (by rw [hr, ek])
    have hlt := lp_lt hk (by omega) hc
    have hgy : GS (wyS what s g (nI k)) := GS_wy hG (fun _ => ⟨k, by omega, rfl⟩)
    have hzy : ZB (wyS what s g (nI k)) := ZB_wy hZ (ix_g hv)
    have hny : iN (wyS what s g (nI k)) = nI N := by unfold wyS; split <;> exact hN
    conv => whnf
    refine ⟨r2, sR 15, r4, r5, hi, s, m', shX f u, rfl, rfl, hZ, hM', ?_⟩
    conv => whnf
    refine ⟨fun hw => ?_, fun hw => ?_⟩
    · have ey : wyS what s g (nI k) = wfS s g (nI k) := by unfold wyS; rw [if_neg hw]
      have hP : wiP s u g what n k = hsP u (wfS s g (nI k)) (ix g) n := by show hsP u (wyS what s g (nI k)) (ix g) n = _; rw [ey]
      rw [ey] at hgy hzy hny
      conv => whnf
      refine ⟨hv, ?_⟩
      conv => whnf
      refine ⟨sh_in hd, ?_⟩
      rw [(hf hd).1]
      conv => whnf
      refine ⟨u, wfS s g (nI k), N, n, g, rfl, rfl, hv, hn, eM, hzy, hgy, hny, hN9, fun m2 hM2 => ?_⟩
      conv => whnf
      refine ⟨fun h1 => ?_, fun h1 => ?_⟩
      · conv => whnf
        exact ⟨wsN what - (k + 1), by omega, k + 1, n, m2, hlt, rfl, hn, eM, eN, hC, hre, hM2, by rw [← nI_1, bwB_f (by rw [hP]; exact bp_0.mp h1)]; rfl, rfl, rfl⟩
      · conv => whnf
        exact ⟨wsN what - (k + 1), by omega, k + 1, n, m2, hlt, rfl, hn, eM, eN, hC, hre, hM2, by rw [← nI_1, bwB_t (by rw [hP]; exact bp_n h1)]; rfl, rfl, rfl⟩
    · have ey : wyS what s g (nI k) = wkS s g (nI k) := by unfold wyS; rw [if_pos hw]
      have hP : wiP s u g what n k = hsP u (wkS s g (nI k)) (ix g) n := by show hsP u (wyS what s g (nI k)) (ix g) n = _; rw [ey]
      rw [ey] at hgy hzy hny
      conv => whnf
      refine ⟨hv, ?_⟩
      conv => whnf
      refine ⟨sh_in hd, ?_⟩
      rw [(hf hd).1]
      conv => whnf
      refine ⟨u, wkS s g (nI k), N, n, g, rfl, rfl, hv, hn, eM, hzy, hgy, hny, hN9, fun m2 hM2 => ?_⟩
      conv => whnf
      refine ⟨fun h1 => ?_, fun h1 => ?_⟩
      · conv => whnf
        exact ⟨wsN what - (k + 1), by omega, k + 1, n, m2, hlt, rfl, hn, eM, eN, hC, hre, hM2, by rw [← nI_1, bwB_f (by rw [hP]; exact bp_0.mp h1)]; rfl, rfl, rfl⟩
      · conv => whnf
        exact ⟨wsN what - (k + 1), by omega, k + 1, n, m2, hlt, rfl, hn, eM, eN, hC, hre, hM2, by rw [← nI_1, bwB_t (by rw [hP]; exact bp_n h1)]; rfl, rfl, rfl⟩
  · conv => whnf
    refine ⟨s, g, rfl, rfl, rfl, ?_⟩
    conv => whnf
    refine ⟨fun hc => ?_, fun hc1 => ?_⟩
    · conv => whnf
      exact kI (h _ hM) (by unfold wsF; rw [if_neg (fun q => bp_0.mp hc q.1)])
    conv => whnf
    refine ⟨fun hc2 => ?_, fun hc => ?_⟩
    rotate_left
    · conv => whnf
      exact kI (h _ hM) (by unfold wsF; rw [if_neg (fun q => bp_0.mp hc q.2)])
    have hC := And.intro (bp_n hc1) (bp_n hc2)
    conv => whnf
    refine ⟨r2, r4, r5, hi, s, m, f, u, d, rfl, rfl, fun z => (hf z).1, ?_⟩
    conv => whnf
    refine ⟨fun hc => ?_, fun hc => ?_⟩
    · obtain ⟨hd, h2⟩ := re_0 hc
      obtain ⟨n, hn, eM, eN⟩ := sz_n (hf hd).2 h2
      conv => whnf
      refine ⟨fun hw => ?_, fun hw => ?_⟩
      · have e10 : wsN what = 10 := by unfold wsN; rw [if_neg hw]
        conv => whnf
        exact ⟨wsN what - 0, 0, n, m, Nat.zero_le _, rfl, hn, eM, eN, hC, hc, hM, by rw [e10]; rfl, rfl, rfl⟩
      · have e8 : wsN what = 8 := by unfold wsN; rw [if_pos hw]
        conv => whnf
        exact ⟨wsN what - 0, 0, n, m, Nat.zero_le _, rfl, hn, eM, eN, hC, hc, hM, by rw [e8]; rfl, rfl, rfl⟩
    · conv => whnf
      exact kI (h _ hM) (by unfold wsF; rw [if_pos hC, if_neg hc])
noncomputable def wwF (s : InnS) (u : ShS) (d g : Int32) : Int32 := if 0 ≤ g ∧ g ≤ iG s - 1 then (if reF u d 2 = 0 then bwB (wvP s u g (ix (uM u))) 10 else reF u d 2) else -1
def F_X5_whatWish : Fn := fun as w K => ∃ (r2 r4 r5 : sv) (hi : Int32) (s m : InnS) (f : Nat → Option Nat) (u : ShS) (N : Nat) (d g : Int32), as = [sR 0, sI d, sI g] ∧ w = xS r2 r4 r5 hi s m f u ∧ (0 ≤ d ∧ d ≤ 7 → f (ix d) = some 16 ∧ SH u) ∧ IV s N ∧ ZB m ∧ ∀ m', ZB m' → K (some (.inl (wwF s u d g))) (xS r2 r4 r5 hi s m' f u)
def ctb_X5_whatWish : List (Nat × (List sv → List sc → (List sv → List sc → Prop) → Prop)) := [(5, cQ [1, 2, 3, 4, 5, 6, 7] (some 0) 2 F_X0_knows), (15, cS (some 3) 2 F_X5_rowRefusal), (39, cS (some 3) 1 F_X5_inMindE), (62, cG [16, 17, 8, 9, 10, 11, 12, 13, 14] none 3 F_X5_lastPlatesAreSo)]
theorem cok_X5_whatWish : CallOK cX5_whatWish 7 (some .int) RX5 7 ctb_X5_whatWish := CallOK_cons (site_q [1, 2, 3, 4, 5, 6, 7] (by decide) (rnV (pX5_whatWish_ok 5 _ rfl) ct_X0_knows kX0_knows lRX5_80 (by decide))) (CallOK_cons (site_same (rnV (pX5_whatWish_ok 15 _ rfl) ct_X5_rowRefusal kX5_rowRefusal lRX5_44 (by decide))) (CallOK_cons (site_same (rnV (pX5_whatWish_ok 39 _ rfl) ct_X5_inMindE kX5_inMind lRX5_58 (by decide))) (CallOK_cons (site_gen [16, 17, 8, 9, 10, 11, 12, 13, 14] (by decide) (rnS (pX5_whatWish_ok 62 _ rfl) ct_X5_lastPlatesAreSo kX5_lastPlatesAreSo lRX5_220 (by decide))) (CallOK_nil))))
theorem ct_X5_whatWish : Ct yX5_whatWish cX5_whatWish 7 (some .int) 7 F_X5_whatWish := by
  intro l D σ cA sz as w K h
  obtain ⟨r2, r4, r5, hi, s, m, f, u, N, d, g, rfl, rfl, hf, ⟨hZ, hG, hN, hN9, hB⟩, hM, h⟩ := h
  refine metL (pr := lkB pX5_whatWish) (rk := 1) (ct := ctb_X5_whatWish) (fld := lkB flX5) (cst := lkB csX5) (cstL := lkB clX5) [(31, ([true, true, true, false, true, true, false], fun x lv st w => ∃ (k n : Nat) (m' : InnS), k ≤ 10 ∧ x = 10 - k ∧ n ≤ 100 ∧ uM u = nI n ∧ ix (uM u) = n ∧ (0 ≤ g ∧ g ≤ iG s - 1) ∧ reF u d 2 = 0 ∧ ZB m' ∧ lv = [some (sR 0), some (sI d), some (sI g), none, some (sI (bwB (wvP s u g n) k)), some (sI (nI k)), none] ∧ st = [] ∧ w = xS r2 r4 r5 hi s m' f u))] pX5_whatWish_ok kX5_whatWish.2.2.2.2.2.2.2 fdX5 cdX5 rto1 cok_X5_whatWish (Nat.le_of_ble_eq_true rfl) ?_ ?_ l D σ cA sz
  · refine List.forall_mem_cons.mpr ⟨?_, cut0⟩
    rintro x lv st w ⟨k, n, m', hk, rfl, hn, eM, eN, hC, hre, hM', rfl, rfl, rfl⟩
    have hv := kn_in hG hC
    have hr : wwF s u d g = bwB (wvP s u g n) 10 := by unfold wwF; rw [if_pos hC, if_pos hre, eN]
    have hd := (re_0 hre).1
    have hP : wvP s u g n k = lsP u (wbS s g (nI k)) (ix g) n := rfl
    conv => whnf
    refine ⟨fun hc => ?_, fun hc => ?_⟩
    · have ek := lp_ge hk (by omega) hc
      conv => whnf
      exact kI (h _ hM') (by rw [hr, ek])
    have hlt := lp_lt hk (by omega) hc
    conv => whnf
    refine ⟨r2, sR 15, r4, r5, hi, s, m', shX f u, rfl, rfl, hZ, hM', ?_⟩
    conv => whnf
    refine ⟨hv, ?_⟩
    conv => whnf
    refine ⟨sh_in hd, ?_⟩
    rw [(hf hd).1]
    conv => whnf
    refine ⟨u, wbS s g (nI k), N, n, g, rfl, rfl, hv, hn, eM, ZB_ws hZ (ix_g hv), GS_ws hG ⟨k, hlt, rfl⟩, hN, hN9, fun m2 hM2 => ?_⟩
    conv => whnf
    refine ⟨fun h1 => ?_, fun h1 => ?_⟩
    · conv => whnf
      exact ⟨10 - (k + 1), by omega, k + 1, n, m2, hlt, rfl, hn, eM, eN, hC, hre, hM2, by rw [← nI_1, bwB_f (by rw [hP]; exact bp_0.mp h1)]; rfl, rfl, rfl⟩
    · conv => whnf
      exact ⟨10 - (k + 1), by omega, k + 1, n, m2, hlt, rfl, hn, eM, eN, hC, hre, hM2, by rw [← nI_1, bwB_t (by rw [hP]; exact bp_n h1)]; rfl, rfl, rfl⟩
  · conv => whnf
    refine ⟨s, g, rfl, rfl, rfl, ?_⟩
    conv => whnf
    refine ⟨fun hc1 => ?_, fun hc => ?_⟩
    rotate_left
    · conv => whnf
      exact kI (h _ hM) (by unfold wwF; rw [if_neg (bp_0.mp hc)])
    have hC := bp_n hc1
    conv => whnf
    refine ⟨r2, r4, r5, hi, s, m, f, u, d, rfl, rfl, fun z => (hf z).1, ?_⟩
    conv => whnf
    refine ⟨fun hc => ?_, fun hc => ?_⟩
    · obtain ⟨hd, h2⟩ := re_0 hc
      obtain ⟨n, hn, eM, eN⟩ := sz_n (hf hd).2 h2
      conv => whnf
      exact ⟨10 - 0, 0, n, m, Nat.zero_le _, rfl, hn, eM, eN, hC, hc, hM, rfl, rfl, rfl⟩
    · conv => whnf
      exact kI (h _ hM) (by unfold wwF; rw [if_pos hC, if_neg hc])
