/-! ===== years of the reference, itself ===== -/
def F_X6_years : Fn := fun as w K => ∃ (s : InnS) (q : Pm) (t : Tm) (N : Nat) (n z what : Int32), as = [sR 0, sI n, sI z, sI what] ∧ w = modW s q t ∧ TZ t ∧ IV s N ∧ ∀ a b t', TZ t' → K (some (.inl (yrR s n z what))) (modW (snS s a b) q t')
theorem yw_sn (s : InnS) (a b : Int32) (W P : PA) : ywS (snS s a b) W P = snS (ywS s W P) a b := rfl
def ctb_X6_years : List (Nat × (List sv → List sc → (List sv → List sc → Prop) → Prop)) := [(11, cS none 3 F_X6_in), (21, cS none 3 F_X6_in), (44, cS (some 4) 1 F_X6_think), (77, cS (some 4) 2 F_X6_drawBelow), (106, cS (some 4) 2 F_X6_drawBelow), (119, cS (some 4) 2 F_X6_goNights), (142, cS none 1 F_X6_onesOf), (149, cS (some 4) 1 F_X6_again)]
theorem cok_X6_years : CallOK cX6_years 8 (some .int) RX6 6 ctb_X6_years := CallOK_cons (site_same (rnS (pX6_years_ok 11 _ rfl) ct_X6_in kX6_in lRX6_81 (by decide))) (CallOK_cons (site_same (rnS (pX6_years_ok 21 _ rfl) ct_X6_in kX6_in lRX6_81 (by decide))) (CallOK_cons (site_same (rnV (pX6_years_ok 44 _ rfl) ct_X6_think kX6_think lRX6_190 (by decide))) (CallOK_cons (site_same (rnV (pX6_years_ok 77 _ rfl) ct_X6_drawBelow kX6_drawBelow lRX6_311 (by decide))) (CallOK_cons (site_same (rnV (pX6_years_ok 106 _ rfl) ct_X6_drawBelow kX6_drawBelow lRX6_311 (by decide))) (CallOK_cons (site_same (rnV (pX6_years_ok 119 _ rfl) ct_X6_goNights kX6_goNights lRX6_168 (by decide))) (CallOK_cons (site_same (rnS (pX6_years_ok 142 _ rfl) ct_X6_onesOf kX6_onesOf lRX6_228 (by decide))) (CallOK_cons (site_same (rnV (pX6_years_ok 149 _ rfl) ct_X6_again kX6_again lRX6_196 (by decide))) (CallOK_nil))))))))
theorem ct_X6_years : Ct yX6_years cX6_years 8 (some .int) 6 F_X6_years := by
  intro l D σ cA sz as w K h
  obtain ⟨s, q, t, N, n, z, what, rfl, rfl, hT, ⟨hZ, hG, hN, hN9, hB⟩, h⟩ := h
  have h0 := h (iSn s) (iLn s) (tq0 t) hT
  have hT0 : TZ (tq0 t) := hT
  obtain ⟨G, hG7, hGG⟩ := hG.2.1
  have eG : ix (iG s) = G := by rw [hGG]; exact nI_clamp (by omega)
  refine metL (pr := lkB pX6_years) (rk := 1) (ct := ctb_X6_years) (fld := lkB flX6) (cst := lkB csX6) (cstL := lkB clX6) [(50, ([true, true, false, true, true, true, true, false], fun x lv st w => ∃ (k n' : Nat) (a b : Int32) (t1 : Tm) (su zz : Int32), su = (yrF s G what z k).1 ∧ zz = (yrF s G what z k).2 ∧ n = nI n' ∧ n' ≤ 20 ∧ k ≤ n' ∧ x = 40 * (n' - k) ∧ ((1 ≤ n ∧ n ≤ 20) ∧ (0 ≤ what ∧ what ≤ 1)) ∧ TZ t1 ∧ KP s t1 ∧ lv = [some (sR 0), some (sI (nI n')), none, some (sI what), some (sI su), some (sI (iS s)), some (sI (nI k)), none] ∧ st = [] ∧ w = modW (snS s a b) q (sdT t1 zz))), (59, ([true, true, false, true, true, true, true, true], fun x lv st w => ∃ (k n' g : Nat) (a b : Int32) (t1 : Tm) (Wg : PA) (zz : Int32), Wg = dwF (iW s) (nI 10) (yrF s G what z k).2 g ∧ zz = sdN (yrF s G what z k).2 g ∧ n = nI n' ∧ n' ≤ 20 ∧ k < n' ∧ g ≤ G ∧ x = 40 * (n' - (k + 1)) + 20 + (G - g) ∧ ((1 ≤ n ∧ n ≤ 20) ∧ (0 ≤ what ∧ what ≤ 1)) ∧ TZ t1 ∧ KP s t1 ∧ lv = [some (sR 0), some (sI (nI n')), none, some (sI what), some (sI (yrF s G what z k).1), some (sI (iS s)), some (sI (nI k)), some (sI (nI g))] ∧ st = [] ∧ w = modW (ywS (snS s a b) Wg (iP s)) q (sdT t1 zz))), (90, ([true, true, false, true, true, true, true, true], fun x lv st w => ∃ (k n' g : Nat) (a b : Int32) (t1 : Tm) (Wg Pg : PA) (zz : Int32), Wg = dwF (iW s) (nI 10) (yrF s G what z k).2 G ∧ Pg = dwF (iP s) (nI 6) (sdN (yrF s G what z k).2 G) g ∧ zz = sdN (sdN (yrF s G what z k).2 G) g ∧ n = nI n' ∧ n' ≤ 20 ∧ k < n' ∧ g ≤ 10 ∧ x = 40 * (n' - (k + 1)) + 5 + (10 - g) ∧ ((1 ≤ n ∧ n ≤ 20) ∧ (0 ≤ what ∧ what ≤ 1)) ∧ TZ t1 ∧ KP s t1 ∧ lv = [some (sR 0), some (sI (nI n')), none, some (sI what), some (sI (yrF s G what z k).1), some (sI (iS s)), some (sI (nI k)), some (sI (nI g))] ∧ st = [] ∧ w = modW (ywS (snS s a b) Wg Pg) q (sdT t1 zz))), (116, ([true, true, false, true, true, true, true, false], fun x lv st w => ∃ (k n' : Nat) (a b : Int32) (t1 : Tm) (ya : InnS) (zz : Int32), ya = yrA s G (yrF s G what z k).2 ∧ zz = (yrF s G what z (k + 1)).2 ∧ n = nI n' ∧ n' ≤ 20 ∧ k < n' ∧ x = 40 * (n' - (k + 1)) + 4 ∧ ((1 ≤ n ∧ n ≤ 20) ∧ (0 ≤ what ∧ what ≤ 1)) ∧ TZ t1 ∧ KP s t1 ∧ lv = [some (sR 0), some (sI (nI n')), none, some (sI what), some (sI (yrF s G what z k).1), some (sI (iS s)), some (sI (nI k)), none] ∧ st = [] ∧ w = modW (snS ya a b) q (sdT t1 zz)))] pX6_years_ok kX6_years.2.2.2.2.2.2.2 fdX6 cdX6 rto1 cok_X6_years (Nat.le_of_ble_eq_true rfl) ?_ ?_ l D σ cA sz
  · refine List.forall_mem_cons.mpr ⟨?_, List.forall_mem_cons.mpr ⟨?_, List.forall_mem_cons.mpr ⟨?_, List.forall_mem_cons.mpr ⟨?_, cut0⟩⟩⟩⟩
    · rintro x lv st w ⟨k, n', a, b, t1, su, zz, esu, ezz, en, hn, hk, rfl, hC, hT1, hk1, rfl, rfl, rfl⟩
      conv => whnf
      refine ⟨fun hc => ?_, fun hc => ?_⟩
      · have ek := lp_ge hk (by omega) hc
        conv => whnf
        refine kI (h a b _ hT1) ?_
        unfold yrR
        rw [if_pos hC, eG, en, show ix (nI n') = n' from nI_clamp (by omega), ← ek, esu]
      have hlt := lp_lt hk (by omega) hc
      conv => whnf
      exact ⟨40 * (n' - (k + 1)) + 20 + (G - 0), by omega, k, n', 0, a, b, t1, iW s, zz, rfl, ezz, en, hn, hlt, Nat.zero_le _, rfl, hC, hT1, hk1, by rw [esu]; rfl, rfl, rfl⟩
    · rintro x lv st w ⟨k, n', g, a, b, t1, Wg, zz, eW, ezz, en, hn, hk, hg, rfl, hC, hT1, hk1, rfl, rfl, rfl⟩
      conv => whnf
      refine ⟨fun hc => ?_, fun hc => ?_⟩
      · have hc : nI G ≤ nI g := by rw [← hGG]; exact hc
        have eg := lp_ge hg (by omega) hc
        conv => whnf
        rw [eg] at eW ezz
        exact ⟨40 * (n' - (k + 1)) + 5 + (10 - 0), by omega, k, n', 0, a, b, t1, Wg, iP s, zz, eW, rfl, ezz, en, hn, hk, by decide, rfl, hC, hT1, hk1, rfl, rfl, rfl⟩
      have hc : ¬ nI G ≤ nI g := by rw [← hGG]; exact hc
      have hlt := lp_lt hg (by omega) hc
      conv => whnf
      refine ⟨ywS (snS s a b) Wg (iP s), q, sdT t1 zz, 10, rfl, rfl, by decide, by decide, fun z1 v1 hz1 hv1 => ?_⟩
      have hz1 : z1 = sdF zz := hz1
      conv => whnf
      refine ⟨vp_in_nI (by omega) (by decide), ?_⟩
      rw [show (nI g).toNatClampNeg = g from nI_clamp (by omega)]
      conv => whnf
      exact ⟨40 * (n' - (k + 1)) + 20 + (G - (g + 1)), by omega, k, n', g + 1, a, b, t1, upd Wg g v1, z1, by rw [dwF_s, sdN_s, hv1, hz1, eW, ezz], by rw [sdN_s, hz1, ezz], en, hn, hk, hlt, rfl, hC, hT1, hk1, by rw [← nI_1]; rfl, rfl, rfl⟩
    · rintro x lv st w ⟨k, n', g, a, b, t1, Wg, Pg, zz, eW, eP, ezz, en, hn, hk, hg, rfl, hC, hT1, hk1, rfl, rfl, rfl⟩
      conv => whnf
      refine ⟨fun hc => ?_, fun hc => ?_⟩
      · have eg := lp_ge (M := 10) hg (by omega) hc
        rw [eg] at eP ezz
        conv => whnf
        exact ⟨40 * (n' - (k + 1)) + 4, by omega, k, n', a, b, t1, ywS s Wg Pg, zz, by rw [eW, eP, yrA], by rw [ezz, yrF_2], en, hn, hk, rfl, hC, hT1, hk1, rfl, rfl, rfl⟩
      have hlt := lp_lt (M := 10) hg (by omega) hc
      conv => whnf
      refine ⟨ywS (snS s a b) Wg Pg, q, sdT t1 zz, 6, rfl, rfl, by decide, by decide, fun z1 v1 hz1 hv1 => ?_⟩
      have hz1 : z1 = sdF zz := hz1
      conv => whnf
      refine ⟨vp_in_nI hlt (by decide), ?_⟩
      rw [show (nI g).toNatClampNeg = g from nI_clamp (by omega)]
      conv => whnf
      exact ⟨40 * (n' - (k + 1)) + 5 + (10 - (g + 1)), by omega, k, n', g + 1, a, b, t1, Wg, upd Pg g v1, z1, eW, by rw [dwF_s, sdN_s, hv1, hz1, eP, ezz], by rw [sdN_s, hz1, ezz], en, hn, hk, hlt, rfl, hC, hT1, hk1, by rw [← nI_1]; rfl, rfl, rfl⟩
    · rintro x lv st w ⟨k, n', a, b, t1, ya, zz, eya, ezz, en, hn, hk, rfl, hC, hT1, hk1, rfl, rfl, rfl⟩
      obtain ⟨k1, k2⟩ := yr_keep (z := (yrF s G what z k).2) (show G ≤ 7 by omega) hZ hG
      have k3 : iN (yrA s G (yrF s G what z k).2) = nI N := hN
      have k5 : rng 128 (iT (yrA s G (yrF s G what z k).2)) := hB
      have eV : what = 0 → (yrF s G what z (k + 1)).1 = (yrF s G what z k).1 + (iS (nightsS 12 (yrA s G (yrF s G what z k).2)) - iS s) := fun y => by
        show _ + yrV _ _ _ _ = _
        unfold yrV
        rw [if_pos y]
      have eV' : ¬ what = 0 → (yrF s G what z (k + 1)).1 = (yrF s G what z k).1 + pop (iT (nightsS 12 (yrA s G (yrF s G what z k).2))) := fun y => by
        show _ + yrV _ _ _ _ = _
        unfold yrV
        rw [if_neg y]
      rw [← eya] at k1 k2 k3 k5 eV eV'
      obtain ⟨M, hM⟩ : ∃ M : Nat, 12 = M := ⟨12, rfl⟩
      rw [hM] at eV eV'
      have k4 := ZB_nights k1 k2 k3 M (by omega)
      have k6 := TB_nights k5 M
      obtain ⟨a', b', e1⟩ := nights_sn ya a b M
      conv => whnf
      refine ⟨snS ya a b, q, sdT t1 zz, M, N, by rw [← hM]; rfl, rfl, hT1, GS_sn k2, k3, by omega, ?_⟩
      rw [e1]
      generalize nightsS M ya = y12 at k4 k6 eV eV' ⊢
      have hz := ZB_sn (a := a') (b := b') k4
      have hiS := iS_sn y12 a' b'
      have hiT := iT_sn y12 a' b'
      generalize snS y12 a' b' = u at hz hiS hiT ⊢
      conv => whnf
      refine ⟨fun hw => ?_, fun hw => ?_⟩
      · conv => whnf
        refine ⟨by rw [hiT]; exact k6, ?_⟩
        conv => whnf
        refine ⟨u, s, q, sdT t1 zz, rfl, rfl, hk1, hz, hZ, fun t2 hs2 hk2 => ?_⟩
        have e2 : tSd t2 = zz := hs2.2.2.2.2.2.2.1
        rw [hiT]
        conv => whnf
        exact ⟨40 * (n' - (k + 1)), by omega, k + 1, n', iSn u, iLn u, t2, _, tSd t2, (eV' hw).symm, e2.trans ezz, en, hn, hk, rfl, hC, hs2.tz hT1, hk2, by rw [← nI_1]; rfl, rfl, rfl⟩
      · conv => whnf
        refine ⟨u, s, q, sdT t1 zz, rfl, rfl, hk1, hz, hZ, fun t2 hs2 hk2 => ?_⟩
        have e2 : tSd t2 = zz := hs2.2.2.2.2.2.2.1
        rw [hiS]
        conv => whnf
        exact ⟨40 * (n' - (k + 1)), by omega, k + 1, n', iSn u, iLn u, t2, _, tSd t2, (eV hw).symm, e2.trans ezz, en, hn, hk, rfl, hC, hs2.tz hT1, hk2, by rw [← nI_1]; rfl, rfl, rfl⟩
  · have no : ¬ ((1 ≤ n ∧ n ≤ 20) ∧ (0 ≤ what ∧ what ≤ 1)) → K (some (.inl (-1))) (modW s q (tq0 t)) := fun y => kI h0 (by unfold yrR; rw [if_neg y])
    conv => whnf
    refine ⟨fun hc => ?_, fun hc1 => ?_⟩
    · have hc := bp_0.mp ((in_ii 1 n 20).symm.trans hc)
      conv => whnf
      exact no (fun y => hc y.1)
    conv => whnf
    refine ⟨fun hc2 => ?_, fun hc => ?_⟩
    rotate_left
    · have hc := bp_0.mp ((in_ii 0 what 1).symm.trans hc)
      conv => whnf
      exact no (fun y => hc y.2)
    have hC := And.intro (bp_n (fun z => hc1 ((in_ii 1 n 20).trans z))) (bp_n (fun z => hc2 ((in_ii 0 what 1).trans z)))
    obtain ⟨n', hn1, hn, en⟩ := n20 hC.1
    conv => whnf
    refine ⟨s, q, sdT (tq0 t) z, rfl, rfl, fun t1 hs1 hk1 => ?_⟩
    have e2 : tSd t1 = z := hs1.2.2.2.2.2.2.1
    have hT1 : TZ t1 := hs1.tz ⟨hT.1, hT.2⟩
    conv => whnf
    exact ⟨40 * (n' - 0), 0, n', iSn s, iLn s, t1, 0, tSd t1, rfl, e2, en, hn, Nat.zero_le _, rfl, hC, hT1, hk1, by rw [en]; rfl, rfl, rfl⟩
