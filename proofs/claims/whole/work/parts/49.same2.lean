/-! ===== same ===== -/
def sumI (f : Nat → Int32) : Nat → Int32
  | 0 => 0
  | n + 1 => sumI f n + f n
theorem sumI_add (f g : Nat → Int32) : ∀ n, sumI (fun i => f i + g i) n = sumI f n + sumI g n
  | 0 => by show (0 : Int32) = 0 + 0; decide
  | n + 1 => by
    simp only [sumI]
    rw [sumI_add f g n]
    ac_rfl
theorem sumI_congr {f g : Nat → Int32} : ∀ n, (∀ i, i < n → f i = g i) → sumI f n = sumI g n
  | 0, _ => rfl
  | n + 1, h => by
    simp only [sumI]
    rw [sumI_congr n (fun i hi => h i (by omega)), h n (by omega)]
theorem sumI_zero {f : Nat → Int32} : ∀ n, (∀ i, i < n → f i = 0) → sumI f n = 0
  | 0, _ => rfl
  | n + 1, h => by
    simp only [sumI]
    rw [sumI_zero n (fun i hi => h i (by omega)), h n (by omega)]
    decide
def dcI (d : Nat → Int32) (o g : Nat) : Int32 := if ¬ d g = -4 ∧ d g = d o then 1 else 0
def twM (d : Nat → Int32) (G a : Nat) : Int32 := sumI (fun b => if a < b then dcI d a b else 0) G
theorem tw_R (b : Int32) (d : Nat → Int32) (g : Nat) : ∀ o, twR b d g o = b + sumI (fun i => dcI d i g) o
  | 0 => by simp [twR, sumI]
  | o + 1 => by
    simp only [twR, sumI]
    rw [tw_R b d g o, Int32.add_assoc]
    rfl
theorem tw_M (d : Nat → Int32) : ∀ G, sumI (twM d G) G = twF d G
  | 0 => rfl
  | G + 1 => by
    have ih := tw_M d G
    have e1 : sumI (twM d (G + 1)) G = sumI (twM d G) G + sumI (fun i => dcI d i G) G := by
      rw [← sumI_add]
      refine sumI_congr G (fun i hi => ?_)
      show sumI _ (G + 1) = _
      simp only [sumI]
      rw [if_pos hi]
      rfl
    have e2 : twM d (G + 1) G = 0 := sumI_zero _ (fun i hi => by rw [if_neg (by omega)])
    show sumI (twM d (G + 1)) G + twM d (G + 1) G = _
    rw [e1, e2, ih, Int32.add_zero]
    exact (tw_R _ d G G).symm
theorem nd_ok {s : InnS} {j N : Nat} (h : GS s) (hj : j < 7) (hN : iN s = nI N) (hN2 : N < 90000) : ndS s (nI j) = -4 ∨ rng 10 (ndS s (nI j)) := by
  unfold ndS
  split
  · unfold dmS
    rw [show ix (nI j) = j from nI_clamp (by omega), hN, nI_1]
    exact dream_ok (by omega) (h.1 j hj).1 (h.1 j hj).2.1 (h.1 j hj).2.2
  · exact Or.inl rfl
theorem rng_ge {n : Nat} {x : Int32} (hn : n < 2 ^ 31) (h : x = -4 ∨ rng n x) : x < 0 ↔ x = -4 := by
  rcases h with e | ⟨j, hj, e⟩
  · rw [e]; decide
  · rw [e]
    exact ⟨fun q => absurd q (nI_pos (by omega)), fun q => by rw [q]; decide⟩
def F_X6_sameTwos : Fn := fun as w K => ∃ (s : InnS) (q : Pm) (t : Tm) (G N : Nat), as = [sR 0] ∧ w = modW s q t ∧ iG s = nI G ∧ G < 8 ∧ GS s ∧ iN s = nI N ∧ N < 90000 ∧ K (some (.inl (twF (fun g => ndS s (nI g)) G))) w
def ctb_X6_sameTwos : List (Nat × (List sv → List sc → (List sv → List sc → Prop) → Prop)) := [(27, cS (some 4) 2 F_X6_dreamsNext), (35, cS (some 4) 2 F_X6_dreamsNext), (40, cS (some 4) 2 F_X6_dreamsNext)]
theorem cok_X6_sameTwos : CallOK cX6_sameTwos 4 (some .int) RX6 3 ctb_X6_sameTwos := CallOK_cons (site_same (rnV (pX6_sameTwos_ok 27 _ rfl) ct_X6_dreamsNext kX6_dreamsNext lRX6_238 (by decide))) (CallOK_cons (site_same (rnV (pX6_sameTwos_ok 35 _ rfl) ct_X6_dreamsNext kX6_dreamsNext lRX6_238 (by decide))) (CallOK_cons (site_same (rnV (pX6_sameTwos_ok 40 _ rfl) ct_X6_dreamsNext kX6_dreamsNext lRX6_238 (by decide))) (CallOK_nil)))
theorem ct_X6_sameTwos : Ct yX6_sameTwos cX6_sameTwos 4 (some .int) 3 F_X6_sameTwos := by
  intro l D σ cA sz as w K h
  obtain ⟨s, q, t, G, N, rfl, rfl, hG, hG7, hGS, hN, hN2, h⟩ := h
  have hf2 : ∀ j, j < 7 → 0 < iF s (ix (nI j)) + 2 := fun j hj => by
    rw [show ix (nI j) = j from nI_clamp (by omega)]
    exact rng_f2 (hGS.1 j hj).1
  have hd : ∀ j, j < 7 → (ndS s (nI j) < 0 ↔ ndS s (nI j) = -4) := fun j hj => rng_ge (by decide) (nd_ok hGS hj hN hN2)
  rw [← tw_M] at h
  generalize hdd : (fun g => ndS s (nI g)) = d at h
  have hde : ∀ j, ndS s (nI j) = d j := fun j => by rw [← hdd]
  refine metL (pr := lkB pX6_sameTwos) (rk := 1) (ct := ctb_X6_sameTwos) (fld := lkB flX6) (cst := lkB csX6) (cstL := lkB clX6) [(4, ([true, true, true, false], fun n lv st w => ∃ g, g ≤ G ∧ n = (G - g) * 20 + 19 ∧ lv = [some (sR 0), some (sI (sumI (twM d G) g)), some (sI (nI g)), none] ∧ st = [] ∧ w = modW s q t)), (16, ([true, true, true, true], fun n lv st w => ∃ g o, g < G ∧ g < o ∧ o ≤ G ∧ n = (G - g) * 20 + (G - o) ∧ lv = [some (sR 0), some (sI (sumI (twM d G) g + sumI (fun b => if g < b then dcI d g b else 0) o)), some (sI (nI g)), some (sI (nI o))] ∧ st = [] ∧ w = modW s q t))] pX6_sameTwos_ok kX6_sameTwos.2.2.2.2.2.2.2 fdX6 cdX6 rto1 cok_X6_sameTwos (Nat.le_of_ble_eq_true rfl) ?_ ?_ l D σ cA sz
  · refine List.forall_mem_cons.mpr ⟨?_, List.forall_mem_cons.mpr ⟨?_, cut0⟩⟩
    · rintro n lv st w ⟨g, hg, rfl, rfl, rfl, rfl⟩
      conv => whnf
      refine ⟨fun hc => ?_, fun hc => ?_⟩
      · conv => whnf
        rw [hG] at hc
        obtain rfl := lp_ge hg (by omega) hc
        exact h
      · rw [hG] at hc
        have hlt := lp_lt hg (by omega) hc
        repeat' ((conv => whnf); (first | refine And.intro (by first | decide | with_reducible assumption) ?_ | with_reducible refine And.intro (fun hc => ?_) (fun hc => ?_) | with_reducible refine And.intro (fun hc => ?_) ?_ | fail))
        all_goals try (conv => whnf)
        refine ⟨(G - g) * 20 + (G - (g + 1)), by omega, g, g + 1, hlt, by omega, hlt, rfl, ?_, rfl, rfl⟩
        rw [sumI_zero (g + 1) (fun i hi => by rw [if_neg (by omega)]), Int32.add_zero, ← nI_1]
        rfl
    · rintro n lv st w ⟨g, o, hg, hgo, ho, rfl, rfl, rfl, rfl⟩
      have e1 : sumI (twM d G) g + sumI (fun b => if g < b then dcI d g b else 0) (o + 1) = sumI (twM d G) g + sumI (fun b => if g < b then dcI d g b else 0) o + dcI d g o := by
        simp only [sumI]
        rw [if_pos hgo, Int32.add_assoc]
      conv => whnf
      refine ⟨fun hc => ?_, fun hc => ?_⟩
      · conv => whnf
        rw [hG] at hc
        obtain rfl := lp_ge ho (by omega) hc
        exact ⟨(o - (g + 1)) * 20 + 19, by omega, g + 1, by omega, rfl, by rw [← nI_1]; rfl, rfl, rfl⟩
      · rw [hG] at hc
        have hlt := lp_lt ho (by omega) hc
        have fin : ∀ x, x = dcI d g o → ∃ n', n' < (G - g) * 20 + (G - o) ∧ ∃ g_1 o_1, g_1 < G ∧ g_1 < o_1 ∧ o_1 ≤ G ∧ n' = (G - g_1) * 20 + (G - o_1) ∧ [some (sR 0), some (sI (sumI (twM d G) g + sumI (fun b => if g < b then dcI d g b else 0) o + x)), some (sI (nI g)), some (sI (nI o + 1))] = [some (sR 0), some (sI (sumI (twM d G) g_1 + sumI (fun b => if g_1 < b then dcI d g_1 b else 0) o_1)), some (sI (nI g_1)), some (sI (nI o_1))] ∧ ([] : List sv) = [] ∧ modW s q t = modW s q t := fun x hx =>
          ⟨(G - g) * 20 + (G - (o + 1)), by omega, g, o + 1, hg, by omega, hlt, rfl, by rw [hx, nI_1, e1], rfl, rfl⟩
        conv => whnf
        refine ⟨s, q, t, nI g, rfl, rfl, vp_in_nI (by omega) (by decide), hf2 g (by omega), ?_⟩
        conv => whnf
        refine ⟨fun h4 => ?_, fun h4 => ?_⟩
        · have h4 : d g = -4 := (hde g) ▸ (hd g (by omega)).mp h4
          conv => whnf
          exact fin 0 (by rw [dcI, if_neg (fun q => q.1 (q.2.trans h4))])
        · have h4 : ¬ d g = -4 := fun z => h4 ((hd g (by omega)).mpr ((hde g).trans z))
          conv => whnf
          refine ⟨s, q, t, nI g, rfl, rfl, vp_in_nI (by omega) (by decide), hf2 g (by omega), ?_⟩
          conv => whnf
          refine ⟨s, q, t, nI o, rfl, rfl, vp_in_nI (by omega) (by decide), hf2 o (by omega), ?_⟩
          rw [hde, hde]
          conv => whnf
          refine ⟨fun h5 => ?_, fun h5 => ?_⟩
          · conv => whnf
            exact fin 0 (by rw [dcI, if_neg (fun q => h5 q.2.symm)])
          · conv => whnf
            exact fin 1 (by rw [dcI, if_pos ⟨fun z => h4 (h5.trans z), h5.symm⟩])
  · skip
    repeat' ((conv => whnf); (first | refine And.intro (by first | decide | with_reducible assumption) ?_ | with_reducible refine And.intro (fun hc => ?_) (fun hc => ?_) | with_reducible refine And.intro (fun hc => ?_) ?_ | fail))
    all_goals try (conv => whnf)
    exact ⟨(G - 0) * 20 + 19, 0, Nat.zero_le _, rfl, rfl, rfl, rfl⟩
noncomputable def saF (s : InnS) (what : Int32) : Int32 := if what = 0 then twF (fun g => ndS s (nI g)) (ix (iG s)) else if what = 1 then (wlF (iT s) (iH s) (ix (iG s))).1 else if what = 2 then flF (iP s) 9 else if what = 3 then bx_sum (iP s) 10 else if what = 4 then beF (iP s) 10 else if what = 5 then boF (iT s) (iW s) (ix (iG s)) else if what = 6 then boF (iT s) (iL s) (ix (iG s)) else -1
theorem out66 {k : Int32} (h : k.toInt < 0 ∨ 6 < k.toInt) : k ≠ 0 ∧ k ≠ 1 ∧ k ≠ 2 ∧ k ≠ 3 ∧ k ≠ 4 ∧ k ≠ 5 ∧ k ≠ 6 := by
  refine ⟨?_, ?_, ?_, ?_, ?_, ?_, ?_⟩ <;> (rintro rfl; revert h; decide)
theorem sa_0 (s : InnS) : saF s 0 = twF (fun g => ndS s (nI g)) (ix (iG s)) ∧ saF s 1 = (wlF (iT s) (iH s) (ix (iG s))).1 ∧ saF s 2 = flF (iP s) 9 ∧ saF s 3 = bx_sum (iP s) 10 ∧ saF s 4 = beF (iP s) 10 ∧ saF s 5 = boF (iT s) (iW s) (ix (iG s)) ∧ saF s 6 = boF (iT s) (iL s) (ix (iG s)) := by
  refine ⟨?_, ?_, ?_, ?_, ?_, ?_, ?_⟩ <;> (unfold saF; simp (decide := true) only [if_true, if_false])
theorem sa_out {s : InnS} {what : Int32} (h : what.toInt < 0 ∨ 6 < what.toInt) : saF s what = -1 := by
  obtain ⟨a0, a1, a2, a3, a4, a5, a6⟩ := out66 h
  unfold saF
  rw [if_neg a0, if_neg a1, if_neg a2, if_neg a3, if_neg a4, if_neg a5, if_neg a6]
def F_X6_same : Fn := fun as w K => ∃ (s : InnS) (q : Pm) (t : Tm) (N : Nat) (what : Int32), as = [sR 0, sI what] ∧ w = modW s q t ∧ TZ t ∧ IV s N ∧ ∀ a b t', TZ t' → K (some (.inl (saF s what))) (modW (snS s a b) q t')
def ctb_X6_same : List (Nat × (List sv → List sc → (List sv → List sc → Prop) → Prop)) := [(49, cS (some 4) 1 F_X6_sameTwos), (54, cS (some 4) 1 F_X6_wellest), (59, cS (some 4) 1 F_X6_fullestPlate), (64, cS (some 4) 1 F_X6_allPlates), (69, cS (some 4) 1 F_X6_emptyPlates), (75, cS (some 4) 2 F_X6_platesOf1), (81, cS (some 4) 2 F_X6_platesOf0)]
theorem cok_X6_same : CallOK cX6_same 2 (some .int) RX6 4 ctb_X6_same := CallOK_cons (site_same (rnV (pX6_same_ok 49 _ rfl) ct_X6_sameTwos kX6_sameTwos lRX6_255 (by decide))) (CallOK_cons (site_same (rnV (pX6_same_ok 54 _ rfl) ct_X6_wellest kX6_wellest lRX6_258 (by decide))) (CallOK_cons (site_same (rnV (pX6_same_ok 59 _ rfl) ct_X6_fullestPlate kX6_fullestPlate lRX6_261 (by decide))) (CallOK_cons (site_same (rnV (pX6_same_ok 64 _ rfl) ct_X6_allPlates kX6_allPlates lRX6_264 (by decide))) (CallOK_cons (site_same (rnV (pX6_same_ok 69 _ rfl) ct_X6_emptyPlates kX6_emptyPlates lRX6_267 (by decide))) (CallOK_cons (site_same (rnV (pX6_same_ok 75 _ rfl) ct_X6_platesOf1 kX6_platesOf lRX6_270 (by decide))) (CallOK_cons (site_same (rnV (pX6_same_ok 81 _ rfl) ct_X6_platesOf0 kX6_platesOf lRX6_270 (by decide))) (CallOK_nil)))))))
theorem ct_X6_same : Ct yX6_same cX6_same 2 (some .int) 4 F_X6_same := by
  intro l D σ cA sz as w K h
  obtain ⟨s, q, t, N, what, rfl, rfl, hT, ⟨hZ, hG, hN, hN9, hB⟩, h⟩ := h
  have h0 := h (iSn s) (iLn s) (tq0 t) hT
  clear h
  obtain ⟨G, hG7, hGG⟩ := hG.2.1
  have eG : ix (iG s) = G := by rw [hGG]; exact nI_clamp (by omega)
  have hs := sa_0 s
  rw [eG] at hs
  refine metL (pr := lkB pX6_same) (rk := 1) (ct := ctb_X6_same) (fld := lkB flX6) (cst := lkB csX6) (cstL := lkB clX6) [] pX6_same_ok kX6_same.2.2.2.2.2.2.2 fdX6 cdX6 rto1 cok_X6_same (Nat.le_of_ble_eq_true rfl) cut0 ?_ l D σ cA sz
  conv => whnf
  refine ⟨fun hc => ?_, fun e => ?_, fun e => ?_, fun e => ?_, fun e => ?_, fun e => ?_, fun e => ?_, fun e => ?_, trivial⟩
  · conv => whnf
    exact kI h0 (sa_out hc)
  · obtain rfl := e
    conv => whnf
    refine ⟨s, q, tq0 t, G, N, rfl, rfl, hGG, hG7, hG, hN, by omega, ?_⟩
    conv => whnf
    exact kI h0 hs.1
  · obtain rfl := e
    conv => whnf
    refine ⟨s, q, tq0 t, G, rfl, rfl, hGG, hG7, hG, ?_⟩
    conv => whnf
    exact kI h0 hs.2.1
  · obtain rfl := e
    conv => whnf
    refine ⟨s, q, tq0 t, rfl, rfl, ?_⟩
    conv => whnf
    exact kI h0 hs.2.2.1
  · obtain rfl := e
    conv => whnf
    refine ⟨s, q, tq0 t, rfl, rfl, ?_⟩
    conv => whnf
    exact kI h0 hs.2.2.2.1
  · obtain rfl := e
    conv => whnf
    refine ⟨s, q, tq0 t, rfl, rfl, ?_⟩
    conv => whnf
    exact kI h0 hs.2.2.2.2.1
  · obtain rfl := e
    conv => whnf
    refine ⟨s, q, tq0 t, G, rfl, rfl, hGG, hG7, ?_⟩
    conv => whnf
    exact kI h0 hs.2.2.2.2.2.1
  · obtain rfl := e
    conv => whnf
    refine ⟨s, q, tq0 t, G, rfl, rfl, hGG, hG7, ?_⟩
    conv => whnf
    exact kI h0 hs.2.2.2.2.2.2
def F_X5_same : Fn := fun as w K => ∃ (r1 r2 r3 r4 r5 : sv) (hi : Int32) (s : InnS) (N : Nat) (what : Int32), as = [sR 0, sI what] ∧ w = x1W r1 r2 r3 r4 r5 hi s ∧ IV s N ∧ K (some (.inl (saF s what))) w
def ctb_X5_same : List (Nat × (List sv → List sc → (List sv → List sc → Prop) → Prop)) := [(48, cG [1, 2, 3, 4, 5, 6, 7] (some 0) 1 F_X0_twosOfOneDream), (56, cG [1, 2, 3, 4, 5, 6, 7] (some 0) 1 F_X0_wellest), (64, cG [1, 2, 3, 4, 5, 6, 7] (some 0) 1 F_X0_fullest), (72, cG [1, 2, 3, 4, 5, 6, 7] (some 0) 1 F_X0_platesInAll), (80, cG [1, 2, 3, 4, 5, 6, 7] (some 0) 1 F_X0_emptyPlates), (95, cG [1, 2, 3, 4, 5, 6, 7] (some 0) 2 F_X0_platesOf3), (110, cG [1, 2, 3, 4, 5, 6, 7] (some 0) 2 F_X0_platesOf4)]
theorem cok_X5_same : CallOK cX5_same 2 (some .int) RX5 6 ctb_X5_same := CallOK_cons (site_gen [1, 2, 3, 4, 5, 6, 7] (by decide) (rnV (pX5_same_ok 48 _ rfl) ct_X0_twosOfOneDream kX0_twosOfOneDream lRX5_193 (by decide))) (CallOK_cons (site_gen [1, 2, 3, 4, 5, 6, 7] (by decide) (rnV (pX5_same_ok 56 _ rfl) ct_X0_wellest kX0_wellest lRX5_196 (by decide))) (CallOK_cons (site_gen [1, 2, 3, 4, 5, 6, 7] (by decide) (rnV (pX5_same_ok 64 _ rfl) ct_X0_fullest kX0_fullest lRX5_199 (by decide))) (CallOK_cons (site_gen [1, 2, 3, 4, 5, 6, 7] (by decide) (rnV (pX5_same_ok 72 _ rfl) ct_X0_platesInAll kX0_platesInAll lRX5_202 (by decide))) (CallOK_cons (site_gen [1, 2, 3, 4, 5, 6, 7] (by decide) (rnV (pX5_same_ok 80 _ rfl) ct_X0_emptyPlates kX0_emptyPlates lRX5_205 (by decide))) (CallOK_cons (site_gen [1, 2, 3, 4, 5, 6, 7] (by decide) (rnV (pX5_same_ok 95 _ rfl) ct_X0_platesOf3 kX0_platesOf lRX5_208 (by decide))) (CallOK_cons (site_gen [1, 2, 3, 4, 5, 6, 7] (by decide) (rnV (pX5_same_ok 110 _ rfl) ct_X0_platesOf4 kX0_platesOf lRX5_208 (by decide))) (CallOK_nil)))))))
theorem ct_X5_same : Ct yX5_same cX5_same 2 (some .int) 6 F_X5_same := by
  intro l D σ cA sz as w K h
  obtain ⟨r1, r2, r3, r4, r5, hi, s, N, what, rfl, rfl, ⟨hZ, hG, hN, hN9, hB⟩, h0⟩ := h
  obtain ⟨G, hG7, hGG⟩ := hG.2.1
  have eG : ix (iG s) = G := by rw [hGG]; exact nI_clamp (by omega)
  have hs := sa_0 s
  rw [eG] at hs
  refine metL (pr := lkB pX5_same) (rk := 1) (ct := ctb_X5_same) (fld := lkB flX5) (cst := lkB csX5) (cstL := lkB clX5) [] pX5_same_ok kX5_same.2.2.2.2.2.2.2 fdX5 cdX5 rto1 cok_X5_same (Nat.le_of_ble_eq_true rfl) cut0 ?_ l D σ cA sz
  conv => whnf
  refine ⟨fun hc => ?_, fun e => ?_, fun e => ?_, fun e => ?_, fun e => ?_, fun e => ?_, fun e => ?_, fun e => ?_, trivial⟩
  · conv => whnf
    exact kI h0 (sa_out hc)
  · obtain rfl := e
    conv => whnf
    refine ⟨s, G, rfl, rfl, hGG, hG7, hG, ?_⟩
    conv => whnf
    exact kI h0 hs.1
  · obtain rfl := e
    conv => whnf
    refine ⟨s, G, rfl, rfl, hGG, hG7, ?_⟩
    conv => whnf
    exact kI h0 hs.2.1
  · obtain rfl := e
    conv => whnf
    refine ⟨s, rfl, rfl, ?_⟩
    conv => whnf
    exact kI h0 hs.2.2.1
  · obtain rfl := e
    conv => whnf
    refine ⟨s, rfl, rfl, ?_⟩
    conv => whnf
    exact kI h0 hs.2.2.2.1
  · obtain rfl := e
    conv => whnf
    refine ⟨s, rfl, rfl, ?_⟩
    conv => whnf
    exact kI h0 hs.2.2.2.2.1
  · obtain rfl := e
    conv => whnf
    refine ⟨s, G, rfl, rfl, hGG, hG7, ?_⟩
    conv => whnf
    exact kI h0 hs.2.2.2.2.2.1
  · obtain rfl := e
    conv => whnf
    refine ⟨s, G, rfl, rfl, hGG, hG7, ?_⟩
    conv => whnf
    exact kI h0 hs.2.2.2.2.2.2
