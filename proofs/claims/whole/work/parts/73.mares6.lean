/-! ===== mares of the reference ===== -/
def F_X6_mares : Fn := fun as w K => ∃ (s : InnS) (q : Pm) (t0 : Tm) (N : Nat) (g n t v part : Int32), as = [sR 0, sI g, sI n, sI t, sI v, sI part] ∧ w = modW s q t0 ∧ TZ t0 ∧ IV s N ∧ ∀ a b t', TZ t' → K (some (.inr (.inl (maR s g n t v part)))) (modW (snS s a b) q t')
theorem t0S_mr (t1 : Tm) (x y : Int32) : t0S ((x, y, t1.2.2) : Tm) = t0S t1 := rfl
def ctb_X6_mares : List (Nat × (List sv → List sc → (List sv → List sc → Prop) → Prop)) := [(7, cS (some 4) 2 F_X6_isOne), (19, cS none 3 F_X6_in), (33, cS none 3 F_X6_in), (46, cS none 3 F_X6_in), (57, cS none 3 F_X6_in), (96, cS (some 4) 1 F_X6_think), (128, cS none 2 F_X6_hasBit), (150, cS none 2 F_X6_hasBit), (157, cS (some 4) 1 F_X6_nightOn), (189, cS (some 4) 1 F_X6_again), (204, cS none 3 F_X6_partOf)]
theorem cok_X6_mares : CallOK cX6_mares 14 (some .long) RX6 5 ctb_X6_mares := CallOK_cons (site_same (rnV (pX6_mares_ok 7 _ rfl) ct_X6_isOne kX6_isOne lRX6_171 (by decide))) (CallOK_cons (site_same (rnS (pX6_mares_ok 19 _ rfl) ct_X6_in kX6_in lRX6_81 (by decide))) (CallOK_cons (site_same (rnS (pX6_mares_ok 33 _ rfl) ct_X6_in kX6_in lRX6_81 (by decide))) (CallOK_cons (site_same (rnS (pX6_mares_ok 46 _ rfl) ct_X6_in kX6_in lRX6_81 (by decide))) (CallOK_cons (site_same (rnS (pX6_mares_ok 57 _ rfl) ct_X6_in kX6_in lRX6_81 (by decide))) (CallOK_cons (site_same (rnV (pX6_mares_ok 96 _ rfl) ct_X6_think kX6_think lRX6_190 (by decide))) (CallOK_cons (site_same (rnS (pX6_mares_ok 128 _ rfl) ct_X6_hasBit kX6_hasBit lRX6_105 (by decide))) (CallOK_cons (site_same (rnS (pX6_mares_ok 150 _ rfl) ct_X6_hasBit kX6_hasBit lRX6_105 (by decide))) (CallOK_cons (site_same (rnV (pX6_mares_ok 157 _ rfl) ct_X6_nightOn kX6_nightOn lRX6_132 (by decide))) (CallOK_cons (site_same (rnV (pX6_mares_ok 189 _ rfl) ct_X6_again kX6_again lRX6_196 (by decide))) (CallOK_cons (site_same (rnS (pX6_mares_ok 204 _ rfl) ct_X6_partOf kX6_partOf lRX6_301 (by decide))) (CallOK_nil)))))))))))
theorem ct_X6_mares : Ct yX6_mares cX6_mares 14 (some .long) 5 F_X6_mares := by
  intro l D σ cA sz as w K h
  obtain ⟨s, q, t0, N, g, n, t, v, part, rfl, rfl, hT, ⟨hZ, hG, hN, hN9, hB⟩, h⟩ := h
  have h0 := h (iSn s) (iLn s) (tq0 t0) hT
  have hT0 : TZ (tq0 t0) := hT
  refine metL (pr := lkB pX6_mares) (rk := 3) (ct := ctb_X6_mares) (fld := lkB flX6) (cst := lkB csX6) (cstL := lkB clX6) [(76, ([true, true, true, true, true, true, true, false, true, false, true], fun x lv st w => ∃ (n' t' k : Nat), n = nI n' ∧ n' ≤ 7 ∧ t = nI t' ∧ 2 ≤ t' ∧ t' ≤ 20 ∧ k ≤ n' ∧ x = 10000 + (n' - k) ∧ maC s g n t v part ∧ lv = [some (sR 0), some (sI g), some (sI (nI n')), some (sI (nI t')), some (sI v), some (sI part), some (sL 0), none, some (sL (lN (t' ^ k))), none, some (sI (nI k))] ∧ st = [] ∧ w = modW s q (tq0 t0))), (102, ([true, true, true, true, true, true, true, false, true, false, true], fun x lv st w => ∃ (n' t' m : Nat) (a b : Int32) (t1 : Tm), n = nI n' ∧ n' ≤ 7 ∧ t = nI t' ∧ 2 ≤ t' ∧ t' ≤ 20 ∧ m ≤ 2 ^ n' ∧ x = 20 * (2 ^ n' - m) ∧ maC s g n t v part ∧ TZ t1 ∧ KP s t1 ∧ lv = [some (sR 0), some (sI g), some (sI (nI n')), some (sI (nI t')), some (sI v), some (sI part), some (sL (lN (AN s g v t' n' m))), none, some (sL (lN (t' ^ n'))), none, some (sI (nI m))] ∧ st = [] ∧ w = modW (snS s a b) q t1)), (116, ([true, true, true, true, true, true, true, false, true, false, true, true, false, true], fun x lv st w => ∃ (n' t' m k : Nat) (a b : Int32) (t1 : Tm), n = nI n' ∧ n' ≤ 7 ∧ t = nI t' ∧ 2 ≤ t' ∧ t' ≤ 20 ∧ m < 2 ^ n' ∧ k ≤ n' ∧ x = 20 * (2 ^ n' - (m + 1)) + 10 + (n' - k) ∧ maC s g n t v part ∧ TZ t1 ∧ KP s t1 ∧ lv = [some (sR 0), some (sI g), some (sI (nI n')), some (sI (nI t')), some (sI v), some (sI part), some (sL (lN (AN s g v t' n' m))), none, some (sL (lN (t' ^ n'))), none, some (sI (nI m)), some (sL (lN (wN t' m k))), none, some (sI (nI k))] ∧ st = [] ∧ w = modW (snS (mrS s m k) a b) q t1))] pX6_mares_ok kX6_mares.2.2.2.2.2.2.2 fdX6 cdX6 rto3 cok_X6_mares (Nat.le_of_ble_eq_true rfl) ?_ ?_ l D σ cA sz
  · refine List.forall_mem_cons.mpr ⟨?_, List.forall_mem_cons.mpr ⟨?_, List.forall_mem_cons.mpr ⟨?_, cut0⟩⟩⟩
    · rintro x lv st w ⟨n', t', k, en, hn, et, ht2, ht20, hk, rfl, hC, rfl, rfl, rfl⟩
      obtain ⟨-, s2⟩ := sh_2n ⟨n', by omega⟩
      dsimp only at s2
      conv => whnf
      refine ⟨fun hc => ?_, fun hc => ?_⟩
      · obtain rfl := lp_ge hk (by omega) hc
        conv => whnf
        refine ⟨s, q, tq0 t0, rfl, rfl, fun t1 hs1 hk1 => ?_⟩
        conv => whnf
        exact ⟨20 * (2 ^ k - 0), by omega, k, t', 0, iSn s, iLn s, t1, en, hn, et, ht2, ht20, Nat.zero_le _, rfl, hC, hs1.tz hT0, hk1, rfl, rfl, rfl⟩
      have hlt := lp_lt hk (by omega) hc
      have e1 : lN (t' ^ (k + 1)) = lN (t' ^ k) * (nI t').toInt64 := by rw [nI_l (by omega), lN_mul, Nat.pow_succ]
      conv => whnf
      exact ⟨10000 + (n' - (k + 1)), by omega, n', t', k + 1, en, hn, et, ht2, ht20, hlt, rfl, hC, by rw [← nI_1, e1]; rfl, rfl, rfl⟩
    · rintro x lv st w ⟨n', t', m, a, b, t1, en, hn, et, ht2, ht20, hm, rfl, hC, hT1, hk1, rfl, rfl, rfl⟩
      obtain ⟨s1, s2⟩ := sh_2n ⟨n', by omega⟩
      dsimp only at s1 s2
      obtain ⟨b1, b2, b3⟩ := (BN_pow ⟨t', by omega⟩ ⟨n', by omega⟩).resolve_left (show ¬ t' = 0 by omega)
      dsimp only at b1 b2 b3
      conv => whnf
      rw [s1]
      refine ⟨fun hc => ?_, fun hc => ?_⟩
      · have em := lp_ge hm (by omega) hc
        conv => whnf
        have hle := AN_le s g v t' n' m
        rw [em, b1] at hle
        rw [em]
        refine ⟨AN s g v t' n' (2 ^ n'), t' ^ n', part, rfl, by omega, b2, fun _ => b3, part01 hC.2.2, ?_⟩
        conv => whnf
        refine kL (h a b t1 hT1) ?_
        unfold maR
        rw [if_pos hC, et, en, show ix (nI t') = t' from nI_clamp (by omega), show ix (nI n') = n' from nI_clamp (by omega)]
      have hlt := lp_lt hm (by omega) hc
      conv => whnf
      exact ⟨20 * (2 ^ n' - (m + 1)) + 10 + (n' - 0), by omega, n', t', m, 0, a, b, t1, en, hn, et, ht2, ht20, hlt, Nat.zero_le _, rfl, hC, hT1, hk1, rfl, rfl, rfl⟩
    · rintro x lv st w ⟨n', t', m, k, a, b, t1, en, hn, et, ht2, ht20, hm, hk, rfl, hC, hT1, hk1, rfl, rfl, rfl⟩
      obtain ⟨-, s2⟩ := sh_2n ⟨n', by omega⟩
      dsimp only at s2
      obtain ⟨g1, g2, g3⟩ := mr_keep (m := m) hZ hG hN hN9 k (by omega)
      have hv := kn_in hG hC.1.1
      have g1' : ZB (snS (mrS s m k) a b) := g1
      conv => whnf
      refine ⟨fun hc => ?_, fun hc => ?_⟩
      · obtain rfl := lp_ge hk (by omega) hc
        have eA : v ≤ iH (mrS s m k) (ix g) → AN s g v t' k (m + 1) = AN s g v t' k m + wN t' m k := fun z => by rw [AN, if_pos z]
        have eA0 : ¬ v ≤ iH (mrS s m k) (ix g) → AN s g v t' k (m + 1) = AN s g v t' k m + 0 := fun z => by rw [AN, if_neg z]
        conv => whnf
        refine ⟨hv, ?_⟩
        conv => whnf
        refine ⟨fun h1 => ?_, fun h1 => ?_⟩
        · have h1 : iH (mrS s m k) (ix g) < v := h1
          conv => whnf
          refine ⟨snS (mrS s m k) a b, s, q, t1, rfl, rfl, hk1, g1', hZ, fun t2 hs2 hk2 => ?_⟩
          conv => whnf
          exact ⟨20 * (2 ^ k - (m + 1)), by omega, k, t', m + 1, a, b, t2, en, hn, et, ht2, ht20, hm, rfl, hC, hs2.tz hT1, hk2, by rw [← nI_1, eA0 (fun z => absurd h1 (Int32.not_lt.mpr z)), ← lN_add]; rfl, rfl, rfl⟩
        · have h1 : ¬ iH (mrS s m k) (ix g) < v := h1
          conv => whnf
          refine ⟨snS (mrS s m k) a b, s, q, t1, rfl, rfl, hk1, g1', hZ, fun t2 hs2 hk2 => ?_⟩
          conv => whnf
          exact ⟨20 * (2 ^ k - (m + 1)), by omega, k, t', m + 1, a, b, t2, en, hn, et, ht2, ht20, hm, rfl, hC, hs2.tz hT1, hk2, by rw [← nI_1, eA (Int32.not_lt.mp h1), ← lN_add]; rfl, rfl, rfl⟩
      have hlt := lp_lt hk (by omega) hc
      have ek : nightS (bp (tb (nI m) (nI k))) 0 (snS (mrS s m k) a b) = mrS s m (k + 1) := by rw [night_sn]; rfl
      have hsy : tSy t1 = 0 := hT1.1
      have ew : modW (nightS (tMr ((0, bp (tb (nI m) (nI k)), t1.2.2) : Tm)) (tSy ((0, bp (tb (nI m) (nI k)), t1.2.2) : Tm)) (snS (mrS s m k) a b)) q (t0S (0, bp (tb (nI m) (nI k)), t1.2.2)) = modW (snS (mrS s m (k + 1)) (iSn (mrS s m (k + 1))) (iLn (mrS s m (k + 1)))) q t1 := by
        show modW (nightS (bp (tb (nI m) (nI k))) 0 (snS (mrS s m k) a b)) q _ = _
        rw [ek, t0S_mr, t0_w _ _ hT1]
        rfl
      conv => whnf
      refine ⟨fun hb => ?_, fun hb => ?_⟩
      · conv => whnf
        refine ⟨bp_01 _, ?_⟩
        conv => whnf
        refine ⟨snS (mrS s m k) a b, q, (0, bp (tb (nI m) (nI k)), t1.2.2), N + k, rfl, (by rw [← hsy]; rfl), g2, g3, by omega, ?_⟩
        rw [ew, t_m1 ht2 ht20, ← wN_f (by omega) (by omega) (bp_0.mp hb)]
        conv => whnf
        exact ⟨20 * (2 ^ n' - (m + 1)) + 10 + (n' - (k + 1)), by omega, n', t', m, k + 1, _, _, t1, en, hn, et, ht2, ht20, hm, hlt, rfl, hC, hT1, hk1, by rw [← nI_1]; rfl, rfl, rfl⟩
      · conv => whnf
        refine ⟨bp_01 _, ?_⟩
        conv => whnf
        refine ⟨snS (mrS s m k) a b, q, (0, bp (tb (nI m) (nI k)), t1.2.2), N + k, rfl, (by rw [← hsy]; rfl), g2, g3, by omega, ?_⟩
        rw [ew]
        conv => whnf
        exact ⟨20 * (2 ^ n' - (m + 1)) + 10 + (n' - (k + 1)), by omega, n', t', m, k + 1, _, _, t1, en, hn, et, ht2, ht20, hm, hlt, rfl, hC, hT1, hk1, by rw [← nI_1, wN_t (by omega) (by omega) (bp_n hb)]; rfl, rfl, rfl⟩
  · have no : ¬ maC s g n t v part → K (some (.inr (.inl 1000000001))) (modW s q (tq0 t0)) := fun z => kL h0 (by unfold maR; rw [if_neg z])
    conv => whnf
    refine ⟨s, q, tq0 t0, g, rfl, rfl, ?_⟩
    conv => whnf
    refine ⟨fun hc => ?_, fun hc1 => ?_⟩
    · conv => whnf
      exact no (fun z => bp_0.mp hc z.1.1)
    conv => whnf
    refine ⟨fun hc => ?_, fun hc2 => ?_⟩
    · have hc := bp_0.mp ((in_ii 0 n 7).symm.trans hc)
      conv => whnf
      exact no (fun z => hc z.1.2.1)
    conv => whnf
    refine ⟨fun hc => ?_, fun hc3 => ?_⟩
    · have hc := bp_0.mp ((in_ii 2 t 20).symm.trans hc)
      conv => whnf
      exact no (fun z => hc z.1.2.2)
    conv => whnf
    refine ⟨fun hc => ?_, fun hc4 => ?_⟩
    · have hc := bp_0.mp ((in_ii 0 v 99).symm.trans hc)
      conv => whnf
      exact no (fun z => hc z.2.1)
    conv => whnf
    refine ⟨fun hc5 => ?_, fun hc => ?_⟩
    rotate_left
    · have hc := bp_0.mp ((in_ii 0 part 1).symm.trans hc)
      conv => whnf
      exact no (fun z => hc z.2.2)
    have hC : maC s g n t v part := ⟨⟨bp_n hc1, bp_n (fun z => hc2 ((in_ii 0 n 7).trans z)), bp_n (fun z => hc3 ((in_ii 2 t 20).trans z))⟩, bp_n (fun z => hc4 ((in_ii 0 v 99).trans z)), bp_n (fun z => hc5 ((in_ii 0 part 1).trans z))⟩
    obtain ⟨n', hn, en⟩ := in_rng (n := 7) (by decide) hC.1.2.1
    obtain ⟨t', ht2, ht20, et⟩ := t20 hC.1.2.2
    conv => whnf
    exact ⟨10000 + (n' - 0), n', t', 0, en, hn, et, ht2, ht20, Nat.zero_le _, rfl, hC, by rw [en, et]; rfl, rfl, rfl⟩
