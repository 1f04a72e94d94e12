/-! ===== two of the reference ===== -/
def F_X6_goNightsS : Fn := fun as w K => ∃ (s : InnS) (q : Pm) (t : Tm) (n N : Nat), as = [sR 0, sI (nI n)] ∧ w = modW s q t ∧ tMr t = 0 ∧ 1 ≤ n ∧ GS s ∧ iN s = nI N ∧ N + n < 90000 ∧ K none (modW (nightsS (n - 1) (nightS 0 (tSy t) s)) q (t0S t))
def ctb_X6_goNights_S : List (Nat × (List sv → List sc → (List sv → List sc → Prop) → Prop)) := [(8, cS (some 4) 1 F_X6_nightOn)]
theorem cok_X6_goNights_S : CallOK cX6_goNights 3 none RX6 5 ctb_X6_goNights_S := CallOK_cons (site_same (rnV (pX6_goNights_ok 8 _ rfl) ct_X6_nightOn kX6_nightOn lRX6_132 (by decide))) (CallOK_nil)
theorem ct_X6_goNightsS : Ct yX6_goNights cX6_goNights 3 none 5 F_X6_goNightsS := by
  intro l D σ cA sz as w K h
  obtain ⟨s, q, t, m, N, rfl, rfl, hT, hm, hGS, hN, hN2, h⟩ := h
  have k1 := GS_night (mare := 0) (sil := tSy t) hGS hN (by omega)
  have k2 : iN (nightS 0 (tSy t) s) = nI (N + 1) := by rw [night_keep.1, hN, nI_1]
  have hT0 : TZ (t0S t) := ⟨rfl, rfl⟩
  have e1 : nightS (tMr t) (tSy t) s = nightS 0 (tSy t) s := by rw [hT]
  refine metL (pr := lkB pX6_goNights) (rk := 0) (ct := ctb_X6_goNights_S) (fld := lkB flX6) (cst := lkB csX6) (cstL := lkB clX6) [(2, ([true, true, true], fun n lv st w => ∃ j, j ≤ m ∧ n = m - j ∧ lv = [some (sR 0), some (sI (nI m)), some (sI (nI j))] ∧ st = [] ∧ ((j = 0 ∧ w = modW s q t) ∨ (∃ i, j = i + 1 ∧ w = modW (nightsS i (nightS 0 (tSy t) s)) q (t0S t)))))] pX6_goNights_ok kX6_goNights.2.2.2.2.2.2.2 fdX6 cdX6 rto0 cok_X6_goNights_S (Nat.le_of_ble_eq_true rfl) ?_ ?_ l D σ cA sz
  · refine List.forall_mem_cons.mpr ⟨?_, cut0⟩
    rintro n lv st w ⟨j, hj, rfl, rfl, rfl, hw⟩
    rcases hw with ⟨rfl, rfl⟩ | ⟨i, rfl, rfl⟩
    · conv => whnf
      refine ⟨fun hc => ?_, fun hc => ?_⟩
      · have := lp_ge hj (by omega) hc
        omega
      conv => whnf
      refine ⟨s, q, t, N, rfl, rfl, hGS, hN, by omega, ?_⟩
      rw [e1]
      conv => whnf
      exact ⟨m - (0 + 1), by omega, 0 + 1, by omega, rfl, by rw [← nI_1]; rfl, rfl, Or.inr ⟨0, rfl, rfl⟩⟩
    · obtain ⟨g1, g2⟩ := nights_keep k1 k2 i (by omega)
      have hsuc : nightsS (i + 1) (nightS 0 (tSy t) s) = nightS 0 0 (nightsS i (nightS 0 (tSy t) s)) := rfl
      have e0 : nightS (tMr (t0S t)) (tSy (t0S t)) (nightsS i (nightS 0 (tSy t) s)) = nightsS (i + 1) (nightS 0 (tSy t) s) := rfl
      conv => whnf
      refine ⟨fun hc => ?_, fun hc => ?_⟩
      · have em := lp_ge hj (by omega) hc
        have ei : m - 1 = i := by omega
        conv => whnf
        rw [ei] at h
        exact h
      have hjm := lp_lt hj (by omega) hc
      conv => whnf
      refine ⟨nightsS i (nightS 0 (tSy t) s), q, t0S t, N + 1 + i, rfl, rfl, g1, g2, by omega, ?_⟩
      rw [t0_w _ _ hT0, e0]
      conv => whnf
      exact ⟨m - (i + 1 + 1), by omega, i + 1 + 1, by omega, rfl, by rw [← nI_1 (i + 1)]; rfl, rfl, Or.inr ⟨i + 1, rfl, rfl⟩⟩
  · skip
    repeat' ((conv => whnf); (first | refine And.intro (by first | decide | with_reducible assumption) ?_ | with_reducible refine And.intro (fun hc => ?_) (fun hc => ?_) | with_reducible refine And.intro (fun hc => ?_) ?_ | fail))
    all_goals try (conv => whnf)
    exact ⟨m, 0, Nat.zero_le _, rfl, rfl, rfl, Or.inl ⟨rfl, rfl⟩⟩
/-- with other words said, other gains -/
abbrev syW (s : InnS) (q : Pm) (t : Tm) (sy mr : Int32) (ga : PA) : List sc := modX s (qH q) (qK q) (qF q) (qS q) (qM q) (qR q) (qI q) (qB q) sy mr (tTh t) (tRd t) (tPl t) (tBd t) (tSt t) (tPi t) (tLo t) (tTo t) (tKe t) (tP0 t) (tTk t) (tKi t) (tDr t) (tCe t) ga (tSd t) (tBt t)
abbrev tgA (t : Tm) (sy mr : Int32) (ga : PA) : Tm := (sy, mr, tTh t, tRd t, tPl t, tBd t, tSt t, tPi t, tLo t, tTo t, tKe t, tP0 t, tTk t, tKi t, tDr t, tCe t, ga, tSd t, tBt t)
theorem jshl_0 (x : Int32) : jshl 0 x = 0 := by
  obtain ⟨j, hj, e⟩ := pk_andE x (m := 31) 5 (by decide)
  unfold jshl
  rw [e]
  exact (by decide +kernel : ∀ j : Fin 32, (0 : Int32) <<< nI j.val = 0) ⟨j, hj⟩
def F_X6_two : Fn := fun as w K => ∃ (s : InnS) (q : Pm) (t : Tm) (N : Nat) (a b n : Int32), as = [sR 0, sI a, sI b, sI n] ∧ w = modW s q t ∧ TZ t ∧ IV s N ∧ ∀ a' b' t', TZ t' → K (some (.inl (tuR s a b n))) (modW (snS s a' b') q t')
def ctb_X6_two : List (Nat × (List sv → List sc → (List sv → List sc → Prop) → Prop)) := [(7, cS (some 4) 2 F_X6_isOne), (15, cS (some 4) 2 F_X6_isOne), (32, cS none 3 F_X6_in), (45, cS none 2 F_X6_hasBit), (56, cS none 2 F_X6_hasBit), (66, cS (some 4) 1 F_X6_think), (101, cS (some 4) 2 F_X6_goNightsS), (155, cS (some 4) 1 F_X6_again)]
theorem cok_X6_two : CallOK cX6_two 7 (some .int) RX6 6 ctb_X6_two := CallOK_cons (site_same (rnV (pX6_two_ok 7 _ rfl) ct_X6_isOne kX6_isOne lRX6_171 (by decide))) (CallOK_cons (site_same (rnV (pX6_two_ok 15 _ rfl) ct_X6_isOne kX6_isOne lRX6_171 (by decide))) (CallOK_cons (site_same (rnS (pX6_two_ok 32 _ rfl) ct_X6_in kX6_in lRX6_81 (by decide))) (CallOK_cons (site_same (rnS (pX6_two_ok 45 _ rfl) ct_X6_hasBit kX6_hasBit lRX6_105 (by decide))) (CallOK_cons (site_same (rnS (pX6_two_ok 56 _ rfl) ct_X6_hasBit kX6_hasBit lRX6_105 (by decide))) (CallOK_cons (site_same (rnV (pX6_two_ok 66 _ rfl) ct_X6_think kX6_think lRX6_190 (by decide))) (CallOK_cons (site_same (rnV (pX6_two_ok 101 _ rfl) ct_X6_goNightsS kX6_goNights lRX6_168 (by decide))) (CallOK_cons (site_same (rnV (pX6_two_ok 155 _ rfl) ct_X6_again kX6_again lRX6_196 (by decide))) (CallOK_nil))))))))
theorem ct_X6_two : Ct yX6_two cX6_two 7 (some .int) 6 F_X6_two := by
  intro l D σ cA sz as w K h
  obtain ⟨s, q, t, N, a, b, n, rfl, rfl, hT, ⟨hZ, hG, hN, hN9, hB⟩, h⟩ := h
  have h0 := h (iSn s) (iLn s) (tq0 t) hT
  have hT0 : TZ (tq0 t) := hT
  refine metL (pr := lkB pX6_two) (rk := 1) (ct := ctb_X6_two) (fld := lkB flX6) (cst := lkB csX6) (cstL := lkB clX6) [(72, ([true, true, true, true, true, false, false], fun x lv st w => ∃ (p : Nat) (a' b' : Int32) (t1 : Tm), p ≤ 4 ∧ x = 10 + (4 - p) ∧ twC s a b n ∧ (tb (iT s) a ∧ tb (iT s) b) ∧ TZ t1 ∧ KP s t1 ∧ (∀ i, i < p → tGa t1 (2 * i) = pyA s a b (ix n) i ∧ tGa t1 (2 * i + 1) = pyB s a b (ix n) i) ∧ lv = [some (sR 0), some (sI a), some (sI b), some (sI n), some (sI (nI p)), none, none] ∧ st = [] ∧ w = modW (snS s a' b') q t1)), (167, ([true, true, true, true, true, false, false], fun x lv st w => ∃ (p : Nat) (a' b' : Int32) (t1 : Tm), p ≤ 4 ∧ x = 4 - p ∧ twC s a b n ∧ (tb (iT s) a ∧ tb (iT s) b) ∧ TZ t1 ∧ (∀ i, i < 4 → tGa t1 (2 * i) = pyA s a b (ix n) i ∧ tGa t1 (2 * i + 1) = pyB s a b (ix n) i) ∧ (∀ i, i < p → ¬ twP s a b (ix n) i) ∧ lv = [some (sR 0), some (sI a), some (sI b), some (sI n), some (sI (nI p)), none, none] ∧ st = [] ∧ w = modW (snS s a' b') q t1))] pX6_two_ok kX6_two.2.2.2.2.2.2.2 fdX6 cdX6 rto1 cok_X6_two (Nat.le_of_ble_eq_true rfl) ?_ ?_ l D σ cA sz
  · refine List.forall_mem_cons.mpr ⟨?_, List.forall_mem_cons.mpr ⟨?_, cut0⟩⟩
    · rintro x lv st w ⟨p, a', b', t1, hp, rfl, hC, hTT, hT1, hk1, hga, rfl, rfl, rfl⟩
      obtain ⟨n', hn1, hn3, en⟩ := n30 hC.2.2.2
      have eix : ix n = n' := by rw [en]; exact nI_clamp (by omega)
      have hva := kn_in hG hC.1
      have hvb := kn_in hG hC.2.1
      conv => whnf
      refine ⟨fun hc => ?_, fun hc => ?_⟩
      · obtain rfl := lp_ge (M := 4) hp (by decide) hc
        conv => whnf
        exact ⟨4, by omega, 0, a', b', t1, by decide, rfl, hC, hTT, hT1, hga, lt_0, rfl, rfl, rfl⟩
      have hlt : p < 4 := lp_lt (M := 4) hp (by decide) hc
      obtain ⟨f1, f2, f3, f4, f5⟩ := k12 ⟨p, hlt⟩
      dsimp only at f1 f2 f3 f4 f5
      obtain ⟨k1, k2, k3, k4⟩ := tw_keep (a := a) (b := b) (x := nI p) hZ hG hN hN9 hn1 hn3
      have eS : (jshl (1 - nI p / 2) a ||| jshl (1 - jrem (nI p) 2) b) = silI a b (nI p) := by
        rw [f4, f5]
        unfold silI
        by_cases z1 : nI p &&& 2 = 0 <;> by_cases z2 : nI p &&& 1 = 0 <;> simp only [z1, z2, if_true, if_false, jshl_0]
      have vA : pyA s a b n' p = iH (twS s a b n' (nI p)) (ix a) - 2 * (1 - nI p / 2) := by
        unfold pyA
        rw [f4]
        by_cases z1 : nI p &&& 2 = 0 <;> simp only [z1, if_true, if_false] <;> rfl
      have vB : pyB s a b n' p = iH (twS s a b n' (nI p)) (ix b) - 2 * (1 - jrem (nI p) 2) := by
        unfold pyB
        rw [f5]
        by_cases z1 : nI p &&& 1 = 0 <;> simp only [z1, if_true, if_false] <;> rfl
      have etw : nightsS (n' - 1) (nightS 0 (silI a b (nI p)) (snS s a' b')) = twS s a b n' (nI p) := by rw [night_sn]; rfl
      have e2 : 2 * nI p = nI (2 * p) := by rw [show (2 : Int32) = nI 2 by decide, pk_mul]
      rw [eix] at hga
      conv => whnf
      refine ⟨by decide, ?_⟩
      conv => whnf
      refine ⟨by decide, ?_⟩
      refine ⟨snS s a' b', q, (silI a b (nI p), t1.2), n', N, by rw [en], (by rw [← eS]; rfl), hT1.2, hn1, hG, hN, by omega, ?_⟩
      rw [show tSy ((silI a b (nI p), t1.2) : Tm) = silI a b (nI p) from rfl, etw, show modW (twS s a b n' (nI p)) q (t0S (silI a b (nI p), t1.2)) = syW (twS s a b n' (nI p)) q t1 0 0 (tGa t1) from rfl]
      generalize twS s a b n' (nI p) = tw at vA vB k4 ⊢
      conv => whnf
      refine ⟨hva, ?_⟩
      conv => whnf
      refine ⟨by decide, ?_⟩
      conv => whnf
      rw [e2, ← show pyA s a b n' p = iH tw a.toNatClampNeg - 2 * (1 - nI p / 2) from vA]
      refine ⟨vp_in_nI (by omega) (by decide), ?_⟩
      rw [show (nI (2 * p)).toNatClampNeg = 2 * p from nI_clamp (by omega)]
      conv => whnf
      refine ⟨hvb, ?_⟩
      conv => whnf
      refine ⟨by decide, ?_⟩
      conv => whnf
      rw [e2, nI_1, ← show pyB s a b n' p = iH tw b.toNatClampNeg - 2 * (1 - jrem (nI p) 2) from vB]
      refine ⟨vp_in_nI (by omega) (by decide), ?_⟩
      rw [show (nI (2 * p + 1)).toNatClampNeg = 2 * p + 1 from nI_clamp (by omega)]
      conv => whnf
      refine ⟨tw, s, q, tgA t1 0 0 (upd (upd (tGa t1) (2 * p) (pyA s a b n' p)) (2 * p + 1) (pyB s a b n' p)), rfl, rfl, hk1, k4, hZ, fun t2 hs2 hk2 => ?_⟩
      have eg : tGa t2 = upd (upd (tGa t1) (2 * p) (pyA s a b n' p)) (2 * p + 1) (pyB s a b n' p) := hs2.2.2.2.2.2.1
      conv => whnf
      refine ⟨10 + (4 - (p + 1)), by omega, p + 1, iSn tw, iLn tw, t2, hlt, rfl, hC, hTT, hs2.tz ⟨rfl, rfl⟩, hk2, fun i hi => ?_, by rw [← nI_1]; rfl, rfl, rfl⟩
      rw [eix, eg]
      by_cases e : i = p
      · rw [e]
        refine ⟨?_, pk_us⟩
        rw [pk_un (by omega), pk_us]
      · have := hga i (by omega)
        rw [pk_un (by omega), pk_un (by omega), pk_un (by omega), pk_un (by omega)]
        exact this
    · rintro x lv st w ⟨p, a', b', t1, hp, rfl, hC, hTT, hT1, hga, hall, rfl, rfl, rfl⟩
      have hr : tuR s a b n = twA (twP s a b (ix n)) := by unfold tuR; rw [if_pos hC, if_pos hTT]
      conv => whnf
      refine ⟨fun hc => ?_, fun hc => ?_⟩
      · obtain rfl := lp_ge (M := 4) hp (by decide) hc
        conv => whnf
        exact kI (h _ _ _ hT1) (by rw [hr, twA_none hall])
      have hlt : p < 4 := lp_lt (M := 4) hp (by decide) hc
      obtain ⟨f1, f2, f3, f4, f5⟩ := k12 ⟨p, hlt⟩
      dsimp only at f1 f2 f3 f4 f5
      obtain ⟨-, g2, -, g4, -⟩ := x12 ⟨p, hlt⟩
      dsimp only at g2 g4
      have e2 : ∀ i, 2 * nI i = nI (2 * i) := fun i => by rw [show (2 : Int32) = nI 2 by decide, pk_mul]
      have v1 : tGa t1 (2 * p) = pyA s a b (ix n) p := (hga p hlt).1
      have v2 : tGa t1 (2 * x2p p) = pyA s a b (ix n) (x2p p) := (hga _ g2).1
      have v3 : tGa t1 (2 * p + 1) = pyB s a b (ix n) p := (hga p hlt).2
      have v4 : tGa t1 (2 * x1p p + 1) = pyB s a b (ix n) (x1p p) := (hga _ g4).2
      have cl : ∀ i, i < 8 → (nI i).toNatClampNeg = i := fun i hi => nI_clamp (by omega)
      have nx : ¬ twP s a b (ix n) p → ∃ n', n' < 4 - p ∧ ∃ (p_1 : Nat) (a'_1 b'_1 : Int32) (t1_1 : Tm), p_1 ≤ 4 ∧ n' = 4 - p_1 ∧ twC s a b n ∧ (tb (iT s) a ∧ tb (iT s) b) ∧ TZ t1_1 ∧ (∀ i, i < 4 → tGa t1_1 (2 * i) = pyA s a b (ix n) i ∧ tGa t1_1 (2 * i + 1) = pyB s a b (ix n) i) ∧ (∀ i, i < p_1 → ¬ twP s a b (ix n) i) ∧ [some (sR 0), some (sI a), some (sI b), some (sI n), some (sI (nI p + 1)), none, none] = [some (sR 0), some (sI a), some (sI b), some (sI n), some (sI (nI p_1)), none, none] ∧ ([] : List sv) = [] ∧ modW (snS s a' b') q t1 = modW (snS s a'_1 b'_1) q t1_1 := fun hn =>
        ⟨4 - (p + 1), by omega, p + 1, a', b', t1, hlt, rfl, hC, hTT, hT1, hga, lt_s hall hn, by rw [nI_1], rfl, rfl⟩
      conv => whnf
      refine ⟨by decide, ?_⟩
      conv => whnf
      refine ⟨by decide, ?_⟩
      conv => whnf
      refine ⟨by decide, ?_⟩
      conv => whnf
      refine ⟨by decide, ?_⟩
      conv => whnf
      rw [f1, f2, e2]
      refine ⟨vp_in_nI (by omega) (by decide), ?_⟩
      rw [cl _ (by omega), v1]
      conv => whnf
      rw [e2]
      refine ⟨vp_in_nI (by omega) (by decide), ?_⟩
      rw [cl _ (by omega), v2]
      conv => whnf
      refine ⟨fun g1 => ?_, fun g1 => ?_⟩
      · conv => whnf
        exact nx (fun z => absurd g1 (Int32.not_lt.mpr z.1))
      conv => whnf
      rw [e2, nI_1]
      refine ⟨vp_in_nI (by omega) (by decide), ?_⟩
      rw [cl _ (by omega), v3]
      conv => whnf
      rw [e2, nI_1]
      refine ⟨vp_in_nI (by omega) (by decide), ?_⟩
      rw [cl _ (by omega), v4]
      conv => whnf
      refine ⟨fun g3 => ?_, fun g3 => ?_⟩
      · conv => whnf
        exact nx (fun z => absurd g3 (Int32.not_lt.mpr z.2))
      conv => whnf
      refine ⟨by decide, ?_⟩
      conv => whnf
      refine ⟨by decide, ?_⟩
      conv => whnf
      rw [f3]
      exact kI (h _ _ _ hT1) (by rw [hr, twA_some hlt ⟨Int32.not_lt.mp g1, Int32.not_lt.mp g3⟩ hall])
  · have no : ¬ twC s a b n → K (some (.inl (-1))) (modW s q (tq0 t)) := fun z => kI h0 (by unfold tuR; rw [if_neg z])
    conv => whnf
    refine ⟨s, q, tq0 t, a, rfl, rfl, ?_⟩
    conv => whnf
    refine ⟨fun hc => ?_, fun hc1 => ?_⟩
    · conv => whnf
      exact no (fun z => bp_0.mp hc z.1)
    conv => whnf
    refine ⟨s, q, tq0 t, b, rfl, rfl, ?_⟩
    conv => whnf
    refine ⟨fun hc => ?_, fun hc2 => ?_⟩
    · conv => whnf
      exact no (fun z => bp_0.mp hc z.2.1)
    conv => whnf
    refine ⟨fun hc => ?_, fun hc3 => ?_⟩
    · conv => whnf
      exact no (fun z => z.2.2.1 hc)
    conv => whnf
    refine ⟨fun hc4 => ?_, fun hc => ?_⟩
    rotate_left
    · have hc := bp_0.mp ((in_ii 1 n 30).symm.trans hc)
      conv => whnf
      exact no (fun z => hc z.2.2.2)
    have hC : twC s a b n := ⟨bp_n hc1, bp_n hc2, hc3, bp_n (fun z => hc4 ((in_ii 1 n 30).trans z))⟩
    have n3 : ¬ (tb (iT s) a ∧ tb (iT s) b) → K (some (.inl (-3))) (modW s q (tq0 t)) := fun z => kI h0 (by unfold tuR; rw [if_pos hC, if_neg z])
    conv => whnf
    refine ⟨fun hc => ?_, fun hc5 => ?_⟩
    · conv => whnf
      exact n3 (fun z => bp_0.mp hc z.1)
    conv => whnf
    refine ⟨fun hc6 => ?_, fun hc => ?_⟩
    rotate_left
    · conv => whnf
      exact n3 (fun z => bp_0.mp hc z.2)
    conv => whnf
    refine ⟨s, q, tq0 t, rfl, rfl, fun t1 hs1 hk1 => ?_⟩
    conv => whnf
    exact ⟨10 + (4 - 0), 0, iSn s, iLn s, t1, by decide, rfl, hC, ⟨bp_n hc5, bp_n hc6⟩, hs1.tz hT0, hk1, all_0, rfl, rfl, rfl⟩
