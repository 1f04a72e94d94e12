/-! ===== whatIs, whatWish of the reference ===== -/
theorem hs_y {s : InnS} {u : ShS} {g what a b : Int32} {n k : Nat} {y : InnS} (e : wyS what s g (nI k) = y) : hsP u (snS y a b) (ix g) n ↔ wiP s u g what n k := by
  rw [hsP_sn, wiP, e]
def F_X6_whatIs : Fn := fun as w K => ∃ (s : InnS) (q : Pm) (t : Tm) (u : ShS) (N : Nat) (d g what : Int32), as = [sR 0, sI d, sI g, sI what] ∧ w = modW s q t ∧ TZ t ∧ IV s N ∧ (0 ≤ d ∧ d ≤ 7 → SR q (ix d) u ∧ SH u) ∧ ∀ a b t', TZ t' → K (some (.inl (wsF s u d g what))) (modW (snS s a b) q t')
def ctb_X6_whatIs : List (Nat × (List sv → List sc → (List sv → List sc → Prop) → Prop)) := [(7, cS (some 4) 2 F_X6_isOne), (17, cS none 3 F_X6_in), (25, cS (some 4) 2 F_X6_wrongRow), (46, cS (some 4) 1 F_X6_think), (116, cS (some 4) 3 F_X6_isHealthRow)]
theorem cok_X6_whatIs : CallOK cX6_whatIs 7 (some .int) RX6 6 ctb_X6_whatIs := CallOK_cons (site_same (rnV (pX6_whatIs_ok 7 _ rfl) ct_X6_isOne kX6_isOne lRX6_171 (by decide))) (CallOK_cons (site_same (rnS (pX6_whatIs_ok 17 _ rfl) ct_X6_in kX6_in lRX6_81 (by decide))) (CallOK_cons (site_same (rnV (pX6_whatIs_ok 25 _ rfl) ct_X6_wrongRow kX6_wrongRow lRX6_184 (by decide))) (CallOK_cons (site_same (rnV (pX6_whatIs_ok 46 _ rfl) ct_X6_think kX6_think lRX6_190 (by decide))) (CallOK_cons (site_same (rnV (pX6_whatIs_ok 116 _ rfl) ct_X6_isHealthRow kX6_isHealthRow lRX6_287 (by decide))) (CallOK_nil)))))
theorem ct_X6_whatIs : Ct yX6_whatIs cX6_whatIs 7 (some .int) 6 F_X6_whatIs := by
  intro l D σ cA sz as w K h
  obtain ⟨s, q, t, u, N, d, g, what, rfl, rfl, hT, ⟨hZ, hG, hN, hN9, hB⟩, hu, h⟩ := h
  have h0 := h (iSn s) (iLn s) (tq0 t) hT
  have hT0 : TZ (tq0 t) := hT
  refine metL (pr := lkB pX6_whatIs) (rk := 1) (ct := ctb_X6_whatIs) (fld := lkB flX6) (cst := lkB csX6) (cstL := lkB clX6) [(52, ([true, true, true, true, false, true, true], fun x lv st w => ∃ (k n d' : Nat) (a b : Int32) (t1 : Tm), k ≤ wsN what ∧ x = wsN what - k ∧ d = nI d' ∧ ix (uM u) = n ∧ RW q u d' n ∧ ((0 ≤ g ∧ g ≤ iG s - 1) ∧ (0 ≤ what ∧ what ≤ 1)) ∧ reF u d 2 = 0 ∧ TZ t1 ∧ KP s t1 ∧ lv = [some (sR 0), some (sI (nI d')), some (sI g), some (sI what), none, some (sI (bwB (wiP s u g what n) k)), some (sI (nI k))] ∧ st = [] ∧ w = modW (snS s a b) q t1))] pX6_whatIs_ok kX6_whatIs.2.2.2.2.2.2.2 fdX6 cdX6 rto1 cok_X6_whatIs (Nat.le_of_ble_eq_true rfl) ?_ ?_ l D σ cA sz
  · refine List.forall_mem_cons.mpr ⟨?_, cut0⟩
    rintro x lv st w ⟨k, n, d', a, b, t1, hk, rfl, ed, eN, hRW, hC, hre, hT1, hk1, rfl, rfl, rfl⟩
    have hv := kn_in hG hC.1
    have hr : wsF s u d g what = bwB (wiP s u g what n) (wsN what) := by unfold wsF; rw [if_pos hC, if_pos hre, eN]
    have hw10 := wsN_le what
    have h10 : ¬ what = 0 → what = 1 := fun z => by
      obtain ⟨j, hj, e⟩ := in_rng (n := 1) (by decide) hC.2
      rcases (show j = 0 ∨ j = 1 by omega) with y | y
      · exact absurd (by rw [e, y]; rfl) z
      · rw [e, y]; rfl
    have hgy : GS (wyS what s g (nI k)) ∨ wsN what ≤ k := by
      rcases Nat.lt_or_ge k (wsN what) with z | z
      · exact Or.inl (GS_wy hG (fun _ => ⟨k, by omega, rfl⟩))
      · exact Or.inr z
    have hzy : ZB (wyS what s g (nI k)) := ZB_wy hZ (ix_g hv)
    have hny : iN (wyS what s g (nI k)) = nI N := by unfold wyS; split <;> exact hN
    conv => whnf
    refine ⟨fun hw => ?_, fun hw => ?_⟩
    · have e10 : wsN what = 10 := by unfold wsN; rw [if_neg hw]
      have e1 := h10 hw
      have ey : wyS what s g (nI k) = wfS s g (nI k) := by unfold wyS; rw [if_neg hw]
      rw [ey] at hgy hzy hny
      conv => whnf
      refine ⟨fun hc => ?_, fun hc => ?_⟩
      · have ek := lp_ge (M := 10) (by omega) (by decide) hc
        conv => whnf
        exact kI (h a b t1 hT1) (by rw [hr, e10, ek])
      have hlt : k < 10 := lp_lt (M := 10) (by omega) (by decide) hc
      have hgy := hgy.resolve_right (by omega)
      conv => whnf
      refine ⟨fun _ => ?_, fun z => absurd z hw⟩
      conv => whnf
      refine ⟨hv, ?_⟩
      conv => whnf
      refine ⟨hv, ?_⟩
      conv => whnf
      refine ⟨fun z => absurd e1 z, fun _ => ?_⟩
      conv => whnf
      refine ⟨hv, ?_⟩
      conv => whnf
      refine ⟨snS (wfS s g (nI k)) a b, s, q, t1, u, N, n, d', g, rfl, (by rw [upd_self]; rfl), hT1, hk1, hzy, hZ, hgy, hny, hN9, hv, hRW, fun a' b' t2 hs2 hk2 => ?_⟩
      have hP := hs_y (a := a) (b := b) (u := u) (n := n) ey
      conv => whnf
      refine ⟨fun h1 => ?_, fun h1 => ?_⟩
      · conv => whnf
        exact ⟨wsN what - (k + 1), by omega, k + 1, n, d', a', b', t2, by omega, rfl, ed, eN, hRW, hC, hre, hs2.tz hT1, hk2, by rw [← nI_1, bwB_f' (fun z => bp_0.mp h1 (hP.mpr z))]; rfl, rfl, rfl⟩
      · conv => whnf
        exact ⟨wsN what - (k + 1), by omega, k + 1, n, d', a', b', t2, by omega, rfl, ed, eN, hRW, hC, hre, hs2.tz hT1, hk2, by rw [← nI_1, bwB_t (hP.mp (bp_n h1))]; rfl, rfl, rfl⟩
    · have e8 : wsN what = 8 := by unfold wsN; rw [if_pos hw]
      have ey : wyS what s g (nI k) = wkS s g (nI k) := by unfold wyS; rw [if_pos hw]
      rw [ey] at hgy hzy hny
      conv => whnf
      refine ⟨fun hc => ?_, fun hc => ?_⟩
      · have ek := lp_ge (M := 8) (by omega) (by decide) hc
        conv => whnf
        exact kI (h a b t1 hT1) (by rw [hr, e8, ek])
      have hlt : k < 8 := lp_lt (M := 8) (by omega) (by decide) hc
      have hgy := hgy.resolve_right (by omega)
      conv => whnf
      refine ⟨fun z => absurd hw z, fun _ => ?_⟩
      conv => whnf
      refine ⟨hv, ?_⟩
      conv => whnf
      refine ⟨fun _ => ?_, fun z => absurd (hw.symm.trans z) (by decide)⟩
      conv => whnf
      refine ⟨hv, ?_⟩
      conv => whnf
      refine ⟨hv, ?_⟩
      conv => whnf
      refine ⟨snS (wkS s g (nI k)) a b, s, q, t1, u, N, n, d', g, rfl, (by rw [upd_self]; rfl), hT1, hk1, hzy, hZ, hgy, hny, hN9, hv, hRW, fun a' b' t2 hs2 hk2 => ?_⟩
      have hP := hs_y (a := a) (b := b) (u := u) (n := n) ey
      conv => whnf
      refine ⟨fun h1 => ?_, fun h1 => ?_⟩
      · conv => whnf
        exact ⟨wsN what - (k + 1), by omega, k + 1, n, d', a', b', t2, by omega, rfl, ed, eN, hRW, hC, hre, hs2.tz hT1, hk2, by rw [← nI_1, bwB_f' (fun z => bp_0.mp h1 (hP.mpr z))]; rfl, rfl, rfl⟩
      · conv => whnf
        exact ⟨wsN what - (k + 1), by omega, k + 1, n, d', a', b', t2, by omega, rfl, ed, eN, hRW, hC, hre, hs2.tz hT1, hk2, by rw [← nI_1, bwB_t (hP.mp (bp_n h1))]; rfl, rfl, rfl⟩
  · conv => whnf
    refine ⟨s, q, tq0 t, g, rfl, rfl, ?_⟩
    conv => whnf
    refine ⟨fun hc => ?_, fun hc1 => ?_⟩
    · conv => whnf
      refine ⟨fun z => absurd z (by decide), fun _ => ?_⟩
      conv => whnf
      exact kI h0 (by unfold wsF; rw [if_neg (fun q => bp_0.mp hc q.1)])
    conv => whnf
    refine ⟨fun hc => ?_, fun hc2 => ?_⟩
    · have hc := bp_0.mp ((in_ii 0 what 1).symm.trans hc)
      conv => whnf
      refine ⟨fun z => absurd z (by decide), fun _ => ?_⟩
      conv => whnf
      exact kI h0 (by unfold wsF; rw [if_neg (fun q => hc q.2)])
    have hC := And.intro (bp_n hc1) (bp_n (fun z => hc2 ((in_ii 0 what 1).trans z)))
    conv => whnf
    refine ⟨s, q, tq0 t, u, d, rfl, rfl, fun z => (hu z).1, ?_⟩
    conv => whnf
    refine ⟨fun hc => ?_, fun hc => ?_⟩
    · have hc := re_ge hc
      obtain ⟨hd, h2⟩ := re_0 hc
      obtain ⟨d', n, ed, eN, eM, hRW⟩ := RW_of (hu hd) hd h2
      conv => whnf
      refine ⟨s, q, tq0 t, rfl, rfl, fun t1 hs1 hk1 => ?_⟩
      conv => whnf
      exact ⟨wsN what - 0, 0, n, d', iSn s, iLn s, t1, Nat.zero_le _, rfl, ed, eN, hRW, hC, hc, hs1.tz hT0, hk1, by rw [ed]; rfl, rfl, rfl⟩
    · conv => whnf
      exact kI h0 (by unfold wsF; rw [if_pos hC, if_neg (re_lt hc)])
def F_X6_whatWish : Fn := fun as w K => ∃ (s : InnS) (q : Pm) (t : Tm) (u : ShS) (N : Nat) (d g : Int32), as = [sR 0, sI d, sI g] ∧ w = modW s q t ∧ TZ t ∧ IV s N ∧ (0 ≤ d ∧ d ≤ 7 → SR q (ix d) u ∧ SH u) ∧ ∀ a b t', TZ t' → K (some (.inl (wwF s u d g))) (modW (snS s a b) q t')
def ctb_X6_whatWish : List (Nat × (List sv → List sc → (List sv → List sc → Prop) → Prop)) := [(7, cS (some 4) 2 F_X6_isOne), (15, cS (some 4) 2 F_X6_wrongRow), (33, cS (some 4) 1 F_X6_think), (59, cS (some 4) 3 F_X6_isPlateRow)]
theorem cok_X6_whatWish : CallOK cX6_whatWish 6 (some .int) RX6 6 ctb_X6_whatWish := CallOK_cons (site_same (rnV (pX6_whatWish_ok 7 _ rfl) ct_X6_isOne kX6_isOne lRX6_171 (by decide))) (CallOK_cons (site_same (rnV (pX6_whatWish_ok 15 _ rfl) ct_X6_wrongRow kX6_wrongRow lRX6_184 (by decide))) (CallOK_cons (site_same (rnV (pX6_whatWish_ok 33 _ rfl) ct_X6_think kX6_think lRX6_190 (by decide))) (CallOK_cons (site_same (rnV (pX6_whatWish_ok 59 _ rfl) ct_X6_isPlateRow kX6_isPlateRow lRX6_290 (by decide))) (CallOK_nil))))
theorem ct_X6_whatWish : Ct yX6_whatWish cX6_whatWish 6 (some .int) 6 F_X6_whatWish := by
  intro l D σ cA sz as w K h
  obtain ⟨s, q, t, u, N, d, g, rfl, rfl, hT, ⟨hZ, hG, hN, hN9, hB⟩, hu, h⟩ := h
  have h0 := h (iSn s) (iLn s) (tq0 t) hT
  have hT0 : TZ (tq0 t) := hT
  refine metL (pr := lkB pX6_whatWish) (rk := 1) (ct := ctb_X6_whatWish) (fld := lkB flX6) (cst := lkB csX6) (cstL := lkB clX6) [(39, ([true, true, true, false, true, true], fun x lv st w => ∃ (k n d' : Nat) (a b : Int32) (t1 : Tm), k ≤ 10 ∧ x = 10 - k ∧ d = nI d' ∧ ix (uM u) = n ∧ RW q u d' n ∧ (0 ≤ g ∧ g ≤ iG s - 1) ∧ reF u d 2 = 0 ∧ TZ t1 ∧ KP s t1 ∧ lv = [some (sR 0), some (sI (nI d')), some (sI g), none, some (sI (bwB (wvP s u g n) k)), some (sI (nI k))] ∧ st = [] ∧ w = modW (snS s a b) q t1))] pX6_whatWish_ok kX6_whatWish.2.2.2.2.2.2.2 fdX6 cdX6 rto1 cok_X6_whatWish (Nat.le_of_ble_eq_true rfl) ?_ ?_ l D σ cA sz
  · refine List.forall_mem_cons.mpr ⟨?_, cut0⟩
    rintro x lv st w ⟨k, n, d', a, b, t1, hk, rfl, ed, eN, hRW, hC, hre, hT1, hk1, rfl, rfl, rfl⟩
    have hv := kn_in hG hC
    have hr : wwF s u d g = bwB (wvP s u g n) 10 := by unfold wwF; rw [if_pos hC, if_pos hre, eN]
    conv => whnf
    refine ⟨fun hc => ?_, fun hc => ?_⟩
    · have ek := lp_ge (M := 10) hk (by decide) hc
      conv => whnf
      exact kI (h a b t1 hT1) (by rw [hr, ek])
    have hlt : k < 10 := lp_lt (M := 10) hk (by decide) hc
    conv => whnf
    refine ⟨hv, ?_⟩
    conv => whnf
    refine ⟨snS (wbS s g (nI k)) a b, s, q, t1, u, N, n, d', g, rfl, rfl, hT1, hk1, ZB_ws hZ (ix_g hv), hZ, GS_ws hG ⟨k, hlt, rfl⟩, hN, hN9, hv, hRW, fun a' b' t2 hs2 hk2 => ?_⟩
    have hP : lsP u (snS (wbS s g (nI k)) a b) (ix g) n ↔ wvP s u g n k := lsP_sn u (wbS s g (nI k)) a b (ix g) n
    conv => whnf
    refine ⟨fun h1 => ?_, fun h1 => ?_⟩
    · conv => whnf
      exact ⟨10 - (k + 1), by omega, k + 1, n, d', a', b', t2, by omega, rfl, ed, eN, hRW, hC, hre, hs2.tz hT1, hk2, by rw [← nI_1, bwB_f' (fun z => bp_0.mp h1 (hP.mpr z))]; rfl, rfl, rfl⟩
    · conv => whnf
      exact ⟨10 - (k + 1), by omega, k + 1, n, d', a', b', t2, by omega, rfl, ed, eN, hRW, hC, hre, hs2.tz hT1, hk2, by rw [← nI_1, bwB_t (hP.mp (bp_n h1))]; rfl, rfl, rfl⟩
  · conv => whnf
    refine ⟨s, q, tq0 t, g, rfl, rfl, ?_⟩
    conv => whnf
    refine ⟨fun hc => ?_, fun hc1 => ?_⟩
    · conv => whnf
      refine ⟨fun z => absurd z (by decide), fun _ => ?_⟩
      conv => whnf
      exact kI h0 (by unfold wwF; rw [if_neg (bp_0.mp hc)])
    have hC := bp_n hc1
    conv => whnf
    refine ⟨s, q, tq0 t, u, d, rfl, rfl, fun z => (hu z).1, ?_⟩
    conv => whnf
    refine ⟨fun hc => ?_, fun hc => ?_⟩
    · have hc := re_ge hc
      obtain ⟨hd, h2⟩ := re_0 hc
      obtain ⟨d', n, ed, eN, eM, hRW⟩ := RW_of (hu hd) hd h2
      conv => whnf
      refine ⟨s, q, tq0 t, rfl, rfl, fun t1 hs1 hk1 => ?_⟩
      conv => whnf
      exact ⟨10 - 0, 0, n, d', iSn s, iLn s, t1, Nat.zero_le _, rfl, ed, eN, hRW, hC, hc, hs1.tz hT0, hk1, by rw [ed]; rfl, rfl, rfl⟩
    · conv => whnf
      exact kI h0 (by unfold wwF; rw [if_pos hC, if_neg (re_lt hc)])
