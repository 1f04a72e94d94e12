/-! ===== buy ===== -/
theorem st_held {s : InnS} {k : Nat} (h : GS s) (hk : k < 10) : jmin 99 (iP s k + 5) = heldI (iP s k + 5) 99 := by
  obtain ⟨a, ha, hp⟩ := h.2.2.2.2.1 k hk
  rw [hp, show (5 : Int32) = nI 5 by decide, nI_add]
  exact (held_m9 _ (nI_pos (by omega))).symm
theorem GS_st {s : InnS} {k : Nat} (h : GS s) (hk : k < 10) : GS (stS s (nI k) 5) := by
  refine ⟨h.1, h.2.1, h.2.2.1, h.2.2.2.1, fun q hq => ?_, h.2.2.2.2.2⟩
  have ek : ix (nI k) = k := nI_clamp (by omega)
  show rng 100 (upd (iP s) (ix (nI k)) (jmin 99 (iP s (ix (nI k)) + 5)) q)
  rw [ek]
  by_cases e : q = k
  · rw [e, pk_us, st_held h hk]; exact rng_held _
  · rw [pk_un e]; exact h.2.2.2.2.1 q hq
theorem ZB_st {s : InnS} {k : Nat} (h : ZB s) (hk : k < 10) : ZB (stS s (nI k) 5) := by
  refine ⟨h.1, fun q hq => ?_⟩
  have ek : ix (nI k) = k := nI_clamp (by omega)
  show upd (iP s) (ix (nI k)) _ q = 0
  rw [ek, pk_un (by omega)]; exact h.2 q hq
noncomputable def buV (s : InnS) (n k : Nat) : Int32 := iA (nightsS n (stS s (nI k) 5))
noncomputable def buF (s : InnS) (n : Nat) : Nat → Int32 × Int32
  | 0 => (-4, iA (nightsS n s))
  | k + 1 => if buV s n k < (buF s n k).2 then (nI k, buV s n k) else buF s n k
noncomputable def buR (s : InnS) (n : Int32) : Int32 := if 0 ≤ n ∧ n ≤ 60 then (buF s (ix n) 10).1 else -1
def F_X5_buy : Fn := fun as w K => ∃ (r2 r3 r4 r5 : sv) (hi : Int32) (s m : InnS) (N : Nat) (n : Int32), as = [sR 0, sI n] ∧ w = x2W r2 r3 r4 r5 hi s m ∧ IV s N ∧ ZB m ∧ ∀ m', ZB m' → K (some (.inl (buR s n))) (x2W r2 r3 r4 r5 hi s m')
def ctb_X5_buy : List (Nat × (List sv → List sc → (List sv → List sc → Prop) → Prop)) := [(1, cS none 1 F_X5_isWhile), (10, cS (some 3) 1 F_X5_inMind), (16, cG [8, 9, 10, 11, 12, 13, 14] (some 0) 2 F_X0_pass), (39, cS (some 3) 1 F_X5_inMind), (47, cG [8, 9, 10, 11, 12, 13, 14] (some 0) 3 F_X0_stock), (52, cG [8, 9, 10, 11, 12, 13, 14] (some 0) 2 F_X0_pass)]
theorem cok_X5_buy : CallOK cX5_buy 6 (some .int) RX5 6 ctb_X5_buy := CallOK_cons (site_same (rnS (pX5_buy_ok 1 _ rfl) ct_X5_isWhile kX5_isWhile lRX5_148 (by decide))) (CallOK_cons (site_same (rnV (pX5_buy_ok 10 _ rfl) ct_X5_inMind kX5_inMind lRX5_58 (by decide))) (CallOK_cons (site_gen [8, 9, 10, 11, 12, 13, 14] (by decide) (rnV (pX5_buy_ok 16 _ rfl) ct_X0_pass kX0_pass lRX5_136 (by decide))) (CallOK_cons (site_same (rnV (pX5_buy_ok 39 _ rfl) ct_X5_inMind kX5_inMind lRX5_58 (by decide))) (CallOK_cons (site_gen [8, 9, 10, 11, 12, 13, 14] (by decide) (rnV (pX5_buy_ok 47 _ rfl) ct_X0_stock kX0_stock lRX5_170 (by decide))) (CallOK_cons (site_gen [8, 9, 10, 11, 12, 13, 14] (by decide) (rnV (pX5_buy_ok 52 _ rfl) ct_X0_pass kX0_pass lRX5_136 (by decide))) (CallOK_nil))))))
theorem ct_X5_buy : Ct yX5_buy cX5_buy 6 (some .int) 6 F_X5_buy := by
  intro l D σ cA sz as w K h
  obtain ⟨r2, r3, r4, r5, hi, s, m, N, n, rfl, rfl, ⟨hZ, hG, hN, hN9, hB⟩, hM, h⟩ := h
  have h0 := h m hM
  refine metL (pr := lkB pX5_buy) (rk := 1) (ct := ctb_X5_buy) (fld := lkB flX5) (cst := lkB csX5) (cstL := lkB clX5) [(31, ([true, true, false, true, true, true], fun x lv st w => ∃ (k : Nat) (m' : InnS), k ≤ 10 ∧ x = 10 - k ∧ ZB m' ∧ (0 ≤ n ∧ n ≤ 60) ∧ lv = [some (sR 0), some (sI n), none, some (sI (buF s (ix n) k).2), some (sI (buF s (ix n) k).1), some (sI (nI k))] ∧ st = [] ∧ w = x2W r2 r3 r4 r5 hi s m'))] pX5_buy_ok kX5_buy.2.2.2.2.2.2.2 fdX5 cdX5 rto1 cok_X5_buy (Nat.le_of_ble_eq_true rfl) ?_ ?_ l D σ cA sz
  · refine List.forall_mem_cons.mpr ⟨?_, cut0⟩
    rintro x lv st w ⟨k, m', hk, rfl, hM', hC, rfl, rfl, rfl⟩
    obtain ⟨n', hn', en⟩ := in_rng (n := 60) (by decide) hC
    have eix : ix n = n' := by rw [en]; exact nI_clamp (by omega)
    have hr : buR s n = (buF s n' 10).1 := by
      unfold buR
      rw [if_pos hC, eix]
    rw [eix]
    conv => whnf
    refine ⟨fun hc => ?_, fun hc => ?_⟩
    · obtain rfl := lp_ge hk (by decide) hc
      conv => whnf
      exact kI (h _ hM') hr
    · have hlt := lp_lt hk (by decide) hc
      have hz := ZB_nights (ZB_st hZ hlt) (GS_st hG hlt) (show iN (stS s (nI k) 5) = nI N from hN) n' (by omega)
      conv => whnf
      refine ⟨r2, r3, r4, r5, hi, s, m', rfl, rfl, hZ, hM', ?_⟩
      conv => whnf
      refine ⟨s, nI k, 5, rfl, rfl, vp_in_nI hlt (by decide), ?_⟩
      conv => whnf
      refine ⟨stS s (nI k) 5, n', N, by rw [en]; rfl, rfl, GS_st hG hlt, hN, by omega, ?_⟩
      conv => whnf
      refine ⟨fun h1 => ?_, fun h1 => ?_⟩
      · conv => whnf
        exact ⟨10 - (k + 1), by omega, k + 1, _, hlt, rfl, hz, hC, by rw [← nI_1, buF, if_neg (show ¬ buV s n' k < (buF s n' k).2 from Int32.not_lt.mpr h1)]; rfl, rfl, rfl⟩
      · conv => whnf
        exact ⟨10 - (k + 1), by omega, k + 1, _, hlt, rfl, hz, hC, by rw [← nI_1, buF, if_pos (show buV s n' k < (buF s n' k).2 from Int32.not_le.mp h1)]; rfl, rfl, rfl⟩
  · conv => whnf
    refine ⟨fun hc1 => ?_, fun hc => ?_⟩
    rotate_left
    · conv => whnf
      exact kI h0 (by unfold buR; rw [if_neg (bp_0.mp hc)])
    have hC := bp_n hc1
    obtain ⟨n', hn', en⟩ := in_rng (n := 60) (by decide) hC
    have eix : ix n = n' := by rw [en]; exact nI_clamp (by omega)
    rw [eix]
    conv => whnf
    refine ⟨r2, r3, r4, r5, hi, s, m, rfl, rfl, hZ, hM, ?_⟩
    conv => whnf
    refine ⟨s, n', N, by rw [en]; rfl, rfl, hG, hN, by omega, ?_⟩
    conv => whnf
    exact ⟨10, 0, nightsS n' s, by decide, rfl, ZB_nights hZ hG hN n' (by omega), hC, rfl, rfl, rfl⟩
def F_X6_lackingThen : Fn := fun as w K => ∃ (s s0 : InnS) (q : Pm) (t : Tm) (N n : Nat), as = [sR 0, sI (nI n)] ∧ w = modW s q t ∧ TZ t ∧ KP s0 t ∧ ZB s ∧ ZB s0 ∧ GS s ∧ iN s = nI N ∧ N + n < 90000 ∧ ∀ a b t', SK t t' → KP s0 t' → K (some (.inl (iA (nightsS n s)))) (modW (snS s0 a b) q t')
def ctb_X6_lackingThen : List (Nat × (List sv → List sc → (List sv → List sc → Prop) → Prop)) := [(2, cS (some 4) 2 F_X6_goNights), (11, cS (some 4) 1 F_X6_again)]
theorem cok_X6_lackingThen : CallOK cX6_lackingThen 3 (some .int) RX6 6 ctb_X6_lackingThen := CallOK_cons (site_same (rnV (pX6_lackingThen_ok 2 _ rfl) ct_X6_goNights kX6_goNights lRX6_168 (by decide))) (CallOK_cons (site_same (rnV (pX6_lackingThen_ok 11 _ rfl) ct_X6_again kX6_again lRX6_196 (by decide))) (CallOK_nil))
theorem ct_X6_lackingThen : Ct yX6_lackingThen cX6_lackingThen 3 (some .int) 6 F_X6_lackingThen := by
  intro l D σ cA sz as w K h
  obtain ⟨s, s0, q, t, N, n, rfl, rfl, hT, hk, hZ, hZ0, hG, hN, hN2, h⟩ := h
  refine metL (pr := lkB pX6_lackingThen) (rk := 1) (ct := ctb_X6_lackingThen) (fld := lkB flX6) (cst := lkB csX6) (cstL := lkB clX6) [] pX6_lackingThen_ok kX6_lackingThen.2.2.2.2.2.2.2 fdX6 cdX6 rto1 cok_X6_lackingThen (Nat.le_of_ble_eq_true rfl) cut0 ?_ l D σ cA sz
  conv => whnf
  refine ⟨s, q, t, n, N, rfl, rfl, hT, hG, hN, hN2, ?_⟩
  conv => whnf
  refine ⟨nightsS n s, s0, q, t, rfl, rfl, hk, ZB_nights hZ hG hN n (by omega), hZ0, fun t2 hs2 hk2 => ?_⟩
  conv => whnf
  exact h (iSn (nightsS n s)) (iLn (nightsS n s)) t2 hs2 hk2
def F_X6_buy : Fn := fun as w K => ∃ (s : InnS) (q : Pm) (t : Tm) (N : Nat) (n : Int32), as = [sR 0, sI n] ∧ w = modW s q t ∧ TZ t ∧ IV s N ∧ ∀ a b t', TZ t' → K (some (.inl (buR s n))) (modW (snS s a b) q t')
def ctb_X6_buy : List (Nat × (List sv → List sc → (List sv → List sc → Prop) → Prop)) := [(11, cS none 3 F_X6_in), (23, cS (some 4) 1 F_X6_think), (28, cS (some 4) 2 F_X6_lackingThen), (59, cS none 2 F_X6_held), (65, cS (some 4) 2 F_X6_lackingThen)]
theorem cok_X6_buy : CallOK cX6_buy 6 (some .int) RX6 7 ctb_X6_buy := CallOK_cons (site_same (rnS (pX6_buy_ok 11 _ rfl) ct_X6_in kX6_in lRX6_81 (by decide))) (CallOK_cons (site_same (rnV (pX6_buy_ok 23 _ rfl) ct_X6_think kX6_think lRX6_190 (by decide))) (CallOK_cons (site_same (rnV (pX6_buy_ok 28 _ rfl) ct_X6_lackingThen kX6_lackingThen lRX6_241 (by decide))) (CallOK_cons (site_same (rnS (pX6_buy_ok 59 _ rfl) ct_X6_held kX6_held lRX6_88 (by decide))) (CallOK_cons (site_same (rnV (pX6_buy_ok 65 _ rfl) ct_X6_lackingThen kX6_lackingThen lRX6_241 (by decide))) (CallOK_nil)))))
theorem ct_X6_buy : Ct yX6_buy cX6_buy 6 (some .int) 7 F_X6_buy := by
  intro l D σ cA sz as w K h
  obtain ⟨s, q, t, N, n, rfl, rfl, hT, ⟨hZ, hG, hN, hN9, hB⟩, h⟩ := h
  have h0 := h (iSn s) (iLn s) (tq0 t) hT
  have hT0 : TZ (tq0 t) := hT
  refine metL (pr := lkB pX6_buy) (rk := 1) (ct := ctb_X6_buy) (fld := lkB flX6) (cst := lkB csX6) (cstL := lkB clX6) [(35, ([true, true, true, true, true, false], fun x lv st w => ∃ (k : Nat) (a b : Int32) (t1 : Tm), k ≤ 10 ∧ x = 10 - k ∧ (0 ≤ n ∧ n ≤ 60) ∧ TZ t1 ∧ KP s t1 ∧ lv = [some (sR 0), some (sI n), some (sI (buF s (ix n) k).1), some (sI (buF s (ix n) k).2), some (sI (nI k)), none] ∧ st = [] ∧ w = modW (snS s a b) q t1))] pX6_buy_ok kX6_buy.2.2.2.2.2.2.2 fdX6 cdX6 rto1 cok_X6_buy (Nat.le_of_ble_eq_true rfl) ?_ ?_ l D σ cA sz
  · refine List.forall_mem_cons.mpr ⟨?_, cut0⟩
    rintro x lv st w ⟨k, a, b, t1, hk, rfl, hC, hT1, hk1, rfl, rfl, rfl⟩
    obtain ⟨n', hn', en⟩ := in_rng (n := 60) (by decide) hC
    have eix : ix n = n' := by rw [en]; exact nI_clamp (by omega)
    have hr : buR s n = (buF s n' 10).1 := by
      unfold buR
      rw [if_pos hC, eix]
    rw [eix]
    conv => whnf
    refine ⟨fun hc => ?_, fun hc => ?_⟩
    · obtain rfl := lp_ge hk (by decide) hc
      conv => whnf
      exact kI (h a b t1 hT1) hr
    · have hlt := lp_lt hk (by decide) hc
      have hv : vp_in (nI k) 10 := vp_in_nI hlt (by decide)
      obtain ⟨a', b', e1⟩ := nights_sn (stS s (nI k) 5) a b n'
      have hV : iA (nightsS n' (snS (stS s (nI k) 5) a b)) = buV s n' k := by rw [e1]; rfl
      have ek : (nI k).toNatClampNeg = k := nI_clamp (by omega)
      have hw : modW (snS (stS s (nI k) 5) a b) q t1 = modW (iK s, iF s, iW s, iL s, iH s, upd (iP s) (nI k).toNatClampNeg (heldI (iP s (nI k).toNatClampNeg + 5) 99), iG s, iT s, iN s, iS s, iA s, a, b) q t1 := by
        rw [ek, ← st_held hG hlt]
        show modW (iK s, iF s, iW s, iL s, iH s, upd (iP s) (nI k).toNatClampNeg (jmin 99 (iP s (nI k).toNatClampNeg + 5)), iG s, iT s, iN s, iS s, iA s, a, b) q t1 = _
        rw [ek]
      repeat' ((conv => whnf); (first | refine And.intro (by first | decide | with_reducible assumption) ?_ | with_reducible refine And.intro (fun hc => ?_) (fun hc => ?_) | with_reducible refine And.intro (fun hc => ?_) ?_ | fail))
      all_goals try (conv => whnf)
      refine ⟨snS (stS s (nI k) 5) a b, s, q, t1, N, n', by rw [en], ?_, hT1, hk1, ZB_st hZ hlt, hZ, GS_st hG hlt, hN, by omega, fun a2 b2 t2 hs2 hk2 => ?_⟩
      · rw [hw]; rfl
      rw [hV]
      conv => whnf
      refine ⟨fun h1 => ?_, fun h1 => ?_⟩
      · skip
        repeat' ((conv => whnf); (first | refine And.intro (by first | decide | with_reducible assumption) ?_ | with_reducible refine And.intro (fun hc => ?_) (fun hc => ?_) | with_reducible refine And.intro (fun hc => ?_) ?_ | fail))
        all_goals try (conv => whnf)
        · exact ⟨10 - (k + 1), by omega, k + 1, a2, b2, t2, hlt, rfl, hC, hs2.tz hT1, hk2, by rw [← nI_1, buF, if_neg (Int32.not_lt.mpr h1)]; rfl, rfl, rfl⟩
        · exact absurd h1 (by assumption)
      · skip
        repeat' ((conv => whnf); (first | refine And.intro (by first | decide | with_reducible assumption) ?_ | with_reducible refine And.intro (fun hc => ?_) (fun hc => ?_) | with_reducible refine And.intro (fun hc => ?_) ?_ | fail))
        all_goals try (conv => whnf)
        · exact absurd (by assumption) h1
        · exact ⟨10 - (k + 1), by omega, k + 1, a2, b2, t2, hlt, rfl, hC, hs2.tz hT1, hk2, by rw [← nI_1, buF, if_pos (Int32.not_le.mp h1)]; rfl, rfl, rfl⟩
  · conv => whnf
    refine ⟨fun hc1 => ?_, fun hc => ?_⟩
    rotate_left
    · conv => whnf
      have hc := bp_0.mp ((in_ii 0 n 60).symm.trans hc)
      exact kI h0 (by unfold buR; rw [if_neg hc])
    have hC := bp_n (fun z => hc1 ((in_ii 0 n 60).trans z))
    obtain ⟨n', hn', en⟩ := in_rng (n := 60) (by decide) hC
    have eix : ix n = n' := by rw [en]; exact nI_clamp (by omega)
    rw [eix]
    conv => whnf
    refine ⟨s, q, tq0 t, rfl, rfl, fun t1 hs1 hk1 => ?_⟩
    conv => whnf
    refine ⟨s, s, q, t1, N, n', by rw [en], rfl, hs1.tz hT0, hk1, hZ, hZ, hG, hN, by omega, fun a2 b2 t2 hs2 hk2 => ?_⟩
    conv => whnf
    exact ⟨10, 0, a2, b2, t2, by decide, rfl, hC, hs2.tz (hs1.tz hT0), hk2, rfl, rfl, rfl⟩
