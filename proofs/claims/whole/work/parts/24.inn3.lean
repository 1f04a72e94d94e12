/-! ===== the rest of an inn ===== -/
def F_X0_platesOf3 : Fn := fun as w K => ∃ (s : InnS) (G : Nat), as = [sR 0, sR 3] ∧ w = innW s ∧ iG s = nI G ∧ G < 8 ∧ K (some (.inl (boF (iT s) (iW s) G))) w
def F_X0_platesOf4 : Fn := fun as w K => ∃ (s : InnS) (G : Nat), as = [sR 0, sR 4] ∧ w = innW s ∧ iG s = nI G ∧ G < 8 ∧ K (some (.inl (boF (iT s) (iL s) G))) w
def ctb_X0_platesOf : List (Nat × (List sv → List sc → (List sv → List sc → Prop) → Prop)) := [(21, cS (some 0) 2 F_X0_isThere)]
theorem cok_X0_platesOf : CallOK cX0_platesOf 4 (some .int) RX0 2 ctb_X0_platesOf := CallOK_cons (site_same (rnV (pX0_platesOf_ok 21 _ rfl) ct_X0_isThere kX0_isThere lRX0_76 (by decide))) (CallOK_nil)
theorem ct_X0_platesOf3 : Ct yX0_platesOf cX0_platesOf 4 (some .int) 2 F_X0_platesOf3 := by
  intro l D σ cA sz as w K h
  obtain ⟨s, G, rfl, rfl, hG, hG7, h⟩ := h
  refine metL (pr := lkB pX0_platesOf) (rk := 1) (ct := ctb_X0_platesOf) (fld := lkB flX0) (cst := lkB csX0) (cstL := lkB clX0) [(4, ([true, true, true, true], fun n lv st w => ∃ j, j ≤ G ∧ n = G - j ∧ lv = [some (sR 0), some (sR 3), some (sI (boF (iT s) (iW s) j)), some (sI (nI j))] ∧ st = [] ∧ w = innW s))] pX0_platesOf_ok kX0_platesOf.2.2.2.2.2.2.2 fdX0 cdX0 rto1 cok_X0_platesOf (Nat.le_of_ble_eq_true rfl) ?_ ?_ l D σ cA sz
  · refine List.forall_mem_cons.mpr ⟨?_, cut0⟩
    rintro n lv st w ⟨j, hj, rfl, rfl, rfl, rfl⟩
    conv => whnf
    refine ⟨fun hc => ?_, fun hc => ?_⟩
    · conv => whnf
      rw [hG] at hc
      obtain rfl := lp_ge hj (by omega) hc
      exact h
    · rw [hG] at hc
      have hlt := lp_lt hj (by omega) hc
      have hv : vp_in (nI j) 7 := vp_in_nI (by omega) (by decide)
      conv => whnf
      refine ⟨fun hc => ?_, fun hc => ?_⟩
      · exact absurd (show nI 7 ≤ nI j from hc) (nI_ge (by omega) (by omega))
      conv => whnf
      refine ⟨s, nI j, rfl, rfl, ?_⟩
      repeat' ((conv => whnf); (first | refine And.intro (by first | decide | with_reducible assumption) ?_ | with_reducible refine And.intro (fun hc => ?_) (fun hc => ?_) | with_reducible refine And.intro (fun hc => ?_) ?_ | fail))
      all_goals try (conv => whnf)
      · exact ⟨G - (j + 1), by omega, j + 1, hlt, rfl, by rw [← nI_1, boF, if_neg (bp_0.mp hc)]; rfl, rfl, rfl⟩
      · exact ⟨G - (j + 1), by omega, j + 1, hlt, rfl, by rw [← nI_1, boF, if_pos (Classical.not_not.mp (fun q => hc (bp_0.mpr q))), nI_clamp (n := j) (by omega)]; rfl, rfl, rfl⟩
  · skip
    repeat' ((conv => whnf); (first | refine And.intro (by first | decide | with_reducible assumption) ?_ | with_reducible refine And.intro (fun hc => ?_) (fun hc => ?_) | with_reducible refine And.intro (fun hc => ?_) ?_ | fail))
    all_goals try (conv => whnf)
    exact ⟨G, 0, Nat.zero_le _, rfl, rfl, rfl, rfl⟩
theorem ct_X0_platesOf4 : Ct yX0_platesOf cX0_platesOf 4 (some .int) 2 F_X0_platesOf4 := by
  intro l D σ cA sz as w K h
  obtain ⟨s, G, rfl, rfl, hG, hG7, h⟩ := h
  refine metL (pr := lkB pX0_platesOf) (rk := 1) (ct := ctb_X0_platesOf) (fld := lkB flX0) (cst := lkB csX0) (cstL := lkB clX0) [(4, ([true, true, true, true], fun n lv st w => ∃ j, j ≤ G ∧ n = G - j ∧ lv = [some (sR 0), some (sR 4), some (sI (boF (iT s) (iL s) j)), some (sI (nI j))] ∧ st = [] ∧ w = innW s))] pX0_platesOf_ok kX0_platesOf.2.2.2.2.2.2.2 fdX0 cdX0 rto1 cok_X0_platesOf (Nat.le_of_ble_eq_true rfl) ?_ ?_ l D σ cA sz
  · refine List.forall_mem_cons.mpr ⟨?_, cut0⟩
    rintro n lv st w ⟨j, hj, rfl, rfl, rfl, rfl⟩
    conv => whnf
    refine ⟨fun hc => ?_, fun hc => ?_⟩
    · conv => whnf
      rw [hG] at hc
      obtain rfl := lp_ge hj (by omega) hc
      exact h
    · rw [hG] at hc
      have hlt := lp_lt hj (by omega) hc
      have hv : vp_in (nI j) 7 := vp_in_nI (by omega) (by decide)
      conv => whnf
      refine ⟨fun hc => ?_, fun hc => ?_⟩
      · exact absurd (show nI 7 ≤ nI j from hc) (nI_ge (by omega) (by omega))
      conv => whnf
      refine ⟨s, nI j, rfl, rfl, ?_⟩
      repeat' ((conv => whnf); (first | refine And.intro (by first | decide | with_reducible assumption) ?_ | with_reducible refine And.intro (fun hc => ?_) (fun hc => ?_) | with_reducible refine And.intro (fun hc => ?_) ?_ | fail))
      all_goals try (conv => whnf)
      · exact ⟨G - (j + 1), by omega, j + 1, hlt, rfl, by rw [← nI_1, boF, if_neg (bp_0.mp hc)]; rfl, rfl, rfl⟩
      · exact ⟨G - (j + 1), by omega, j + 1, hlt, rfl, by rw [← nI_1, boF, if_pos (Classical.not_not.mp (fun q => hc (bp_0.mpr q))), nI_clamp (n := j) (by omega)]; rfl, rfl, rfl⟩
  · skip
    repeat' ((conv => whnf); (first | refine And.intro (by first | decide | with_reducible assumption) ?_ | with_reducible refine And.intro (fun hc => ?_) (fun hc => ?_) | with_reducible refine And.intro (fun hc => ?_) ?_ | fail))
    all_goals try (conv => whnf)
    exact ⟨G, 0, Nat.zero_le _, rfl, rfl, rfl, rfl⟩
def twR (b : Int32) (d : Nat → Int32) (g : Nat) : Nat → Int32
  | 0 => b
  | o + 1 => twR b d g o + (if ¬ d g = -4 ∧ d g = d o then 1 else 0)
def twF (d : Nat → Int32) : Nat → Int32
  | 0 => 0
  | g + 1 => twR (twF d g) d g g
def F_X0_twosOfOneDream : Fn := fun as w K => ∃ (s : InnS) (G : Nat), as = [sR 0] ∧ w = innW s ∧ iG s = nI G ∧ G < 8 ∧ GS s ∧ K (some (.inl (twF (fun g => ndS s (nI g)) G))) w
def ctb_X0_twosOfOneDream : List (Nat × (List sv → List sc → (List sv → List sc → Prop) → Prop)) := [(21, cS (some 0) 2 F_X0_nextDream), (38, cS (some 0) 2 F_X0_nextDream)]
theorem cok_X0_twosOfOneDream : CallOK cX0_twosOfOneDream 5 (some .int) RX0 5 ctb_X0_twosOfOneDream := CallOK_cons (site_same (rnV (pX0_twosOfOneDream_ok 21 _ rfl) ct_X0_nextDream kX0_nextDream lRX0_105 (by decide))) (CallOK_cons (site_same (rnV (pX0_twosOfOneDream_ok 38 _ rfl) ct_X0_nextDream kX0_nextDream lRX0_105 (by decide))) (CallOK_nil))
theorem ct_X0_twosOfOneDream : Ct yX0_twosOfOneDream cX0_twosOfOneDream 5 (some .int) 5 F_X0_twosOfOneDream := by
  intro l D σ cA sz as w K h
  obtain ⟨s, G, rfl, rfl, hG, hG7, hGS, h⟩ := h
  have hf2 : ∀ j, j < 7 → 0 < iF s (ix (nI j)) + 2 := fun j hj => by
    rw [show ix (nI j) = j from nI_clamp (by omega)]
    exact rng_f2 (hGS.1 j hj).1
  refine metL (pr := lkB pX0_twosOfOneDream) (rk := 1) (ct := ctb_X0_twosOfOneDream) (fld := lkB flX0) (cst := lkB csX0) (cstL := lkB clX0) [(4, ([true, true, true, false, false], fun n lv st w => ∃ g, g ≤ G ∧ n = (G - g) * 10 + 9 ∧ lv = [some (sR 0), some (sI (twF (fun g => ndS s (nI g)) g)), some (sI (nI g)), none, none] ∧ st = [] ∧ w = innW s)), (14, ([true, true, true, true, false], fun n lv st w => ∃ g o, g < G ∧ o ≤ g ∧ n = (G - g) * 10 + (g - o) ∧ lv = [some (sR 0), some (sI (twR (twF (fun g => ndS s (nI g)) g) (fun g => ndS s (nI g)) g o)), some (sI (nI g)), some (sI (nI o)), none] ∧ st = [] ∧ w = innW s))] pX0_twosOfOneDream_ok kX0_twosOfOneDream.2.2.2.2.2.2.2 fdX0 cdX0 rto1 cok_X0_twosOfOneDream (Nat.le_of_ble_eq_true rfl) ?_ ?_ l D σ cA sz
  · refine List.forall_mem_cons.mpr ⟨?_, List.forall_mem_cons.mpr ⟨?_, cut0⟩⟩
    · rintro n lv st w ⟨g, hg, rfl, rfl, rfl, rfl⟩
      conv => whnf
      refine ⟨fun hc => ?_, fun hc => ?_⟩
      · conv => whnf
        rw [hG] at hc
        obtain rfl := lp_ge hg (by omega) hc
        exact h
      · rw [hG] at hc
        have hlt := lp_lt hg (by omega) hc
        repeat' ((conv => whnf); (first | refine And.intro (by first | decide | with_reducible assumption) ?_ | with_reducible refine And.intro (fun hc => ?_) (fun hc => ?_) | with_reducible refine And.intro (fun hc => ?_) ?_ | fail))
        all_goals try (conv => whnf)
        exact ⟨(G - g) * 10 + (g - 0), by omega, g, 0, hlt, Nat.zero_le _, rfl, rfl, rfl, rfl⟩
    · rintro n lv st w ⟨g, o, hg, ho, rfl, rfl, rfl, rfl⟩
      conv => whnf
      refine ⟨fun hc => ?_, fun hc => ?_⟩
      · conv => whnf
        obtain rfl := lp_ge ho (by omega) hc
        exact ⟨(G - (o + 1)) * 10 + 9, by omega, o + 1, by omega, rfl, by rw [← nI_1]; rfl, rfl, rfl⟩
      · have hlt := lp_lt ho (by omega) hc
        conv => whnf
        refine ⟨s, nI g, rfl, rfl, vp_in_nI (by omega) (by decide), hf2 g (by omega), ?_⟩
        conv => whnf
        refine ⟨fun h4 => ?_, fun h4 => ?_⟩
        · conv => whnf
          exact ⟨(G - g) * 10 + (g - (o + 1)), by omega, g, o + 1, hg, hlt, rfl, by rw [← nI_1, twR, if_neg (fun q => q.1 h4)]; rfl, rfl, rfl⟩
        · conv => whnf
          refine ⟨s, nI o, rfl, rfl, vp_in_nI (by omega) (by decide), hf2 o (by omega), ?_⟩
          conv => whnf
          refine ⟨fun h5 => ?_, fun h5 => ?_⟩
          · conv => whnf
            exact ⟨(G - g) * 10 + (g - (o + 1)), by omega, g, o + 1, hg, hlt, rfl, by rw [← nI_1, twR, if_neg (fun q => h5 q.2)]; rfl, rfl, rfl⟩
          · conv => whnf
            exact ⟨(G - g) * 10 + (g - (o + 1)), by omega, g, o + 1, hg, hlt, rfl, by rw [← nI_1, twR, if_pos ⟨h4, h5⟩]; rfl, rfl, rfl⟩
  · skip
    repeat' ((conv => whnf); (first | refine And.intro (by first | decide | with_reducible assumption) ?_ | with_reducible refine And.intro (fun hc => ?_) (fun hc => ?_) | with_reducible refine And.intro (fun hc => ?_) ?_ | fail))
    all_goals try (conv => whnf)
    exact ⟨(G - 0) * 10 + 9, 0, Nat.zero_le _, rfl, rfl, rfl, rfl⟩
/-! nothing beyond the rows, through the nights -/
theorem ZB_ch {s : InnS} {g d : Int32} (h : ZB s) (hg : ix g < 7) : ZB (chS s g d) := by
  refine ⟨fun j hj => ⟨(h.1 j hj).1, (h.1 j hj).2.1, (h.1 j hj).2.2.1, (h.1 j hj).2.2.2.1, ?_⟩, h.2⟩
  show upd (iH s) (ix g) _ j = 0
  rw [pk_un (by omega)]; exact (h.1 j hj).2.2.2.2
theorem ZB_la {s : InnS} {g : Int32} (h : ZB s) : ZB (laS s g) := h
theorem ZB_sv {s : InnS} {g k : Int32} (h : ZB s) (hg : ix g < 7) : ZB (svS s g k) := by
  refine ⟨fun j hj => ⟨(h.1 j hj).1, (h.1 j hj).2.1, (h.1 j hj).2.2.1, ?_, (h.1 j hj).2.2.2.2⟩, h.2⟩
  show upd (iL s) (ix g) _ j = 0
  rw [pk_un (by omega)]; exact (h.1 j hj).2.2.2.1
theorem ZB_tk {s : InnS} {k e : Int32} (h : ZB s) (hk : ix k < 10) : ZB (tkS s k e) := by
  refine ⟨h.1, fun q hq => ?_⟩
  show upd (iP s) (ix k) _ q = 0
  rw [pk_un (by omega)]; exact h.2 q hq
theorem ZB_bf {s : InnS} {g k : Int32} (h : ZB s) (hg : ix g < 7) (hk : k = -4 ∨ rng 10 k) : ZB (bfS s g k) := by
  unfold bfS
  by_cases h4 : k = -4
  · rw [if_pos h4]; exact ZB_ch h hg
  · rw [if_neg h4]
    have hk10 : ix k < 10 := by
      obtain ⟨j, hj, rfl⟩ := hk.resolve_left h4
      rw [show ix (nI j) = j from nI_clamp (by omega)]; exact hj
    by_cases he : eatsK (iK s (ix g)) ≤ iP s (ix k)
    · rw [if_pos he]
      exact ZB_sv (ZB_ch (ZB_tk h hk10) hg) hg
    · rw [if_neg he]
      exact ZB_la (ZB_ch h hg)
theorem ZB_gf {s : InnS} {mare sil : Int32} {N : Nat} (hz : ZB s) (h : GS s) (hN : iN s = nI N) (hN2 : N < 100000) : ∀ j, j ≤ 7 → ZB (gfS mare sil j s)
  | 0, _ => hz
  | j + 1, hj => by
    have h1 := GS_gf (mare := mare) (sil := sil) h hN hN2 j (by omega)
    have z1 := ZB_gf (mare := mare) (sil := sil) hz h hN hN2 j (by omega)
    show ZB (gsS _ _ _ _)
    unfold gsS
    split
    · exact ZB_bf z1 (by rw [show ix (nI j) = j from nI_clamp (by omega)]; omega) (pick_ok h1 (by omega) ((gf_keep j).1.trans hN) hN2)
    · exact z1
theorem ZB_night {s : InnS} {mare sil : Int32} {N : Nat} (hz : ZB s) (h : GS s) (hN : iN s = nI N) (hN2 : N < 90000) : ZB (nightS mare sil s) := by
  have hN1 : iN s + 1 = nI (N + 1) := by rw [hN, nI_1]
  have hb : ZB (nbS s) := by
    refine ⟨hz.1, fun q hq => ?_⟩
    show upd (iP s) (ix (jrem (iN s + 1) 10)) _ q = 0
    have e : jrem (iN s + 1) 10 = nI ((N + 1) % 10) := by rw [hN1]; exact jrem_nI (d := 10) (by omega) (by decide) (by decide)
    have e2 : ix (nI ((N + 1) % 10)) = (N + 1) % 10 := nI_clamp (by omega)
    rw [pk_un (by rw [e, e2]; omega)]
    exact hz.2 q hq
  obtain ⟨G, hG7, hG⟩ := h.2.1
  unfold nightS
  rw [hG, show ix (nI G) = G from nI_clamp (by omega)]
  exact ZB_gf hb (GS_nb h) hN1 (by omega) G (by omega)
theorem ZB_nights {s : InnS} {N : Nat} (hz : ZB s) (h : GS s) (hN : iN s = nI N) : ∀ n, N + n < 90001 → ZB (nightsS n s)
  | 0, _ => hz
  | n + 1, hn => by
    obtain ⟨h1, h2⟩ := nights_keep h hN n (by omega)
    exact ZB_night (ZB_nights hz h hN n (by omega)) h1 h2 (by omega)
def F_X0_passUnlacking : Fn := fun as w K => ∃ (s : InnS) (n N : Nat), as = [sR 0, sI (nI n)] ∧ w = innW s ∧ ZB s ∧ GS s ∧ iN s = nI N ∧ N + n < 90000 ∧ ∀ s', ZB s' → K (some (.inl (bp (∀ j, j < n → iLn (nightsS (j + 1) s) = 0)))) (innW s')
def ctb_X0_passUnlacking : List (Nat × (List sv → List sc → (List sv → List sc → Prop) → Prop)) := [(10, cS (some 0) 3 F_X0_passNight)]
theorem cok_X0_passUnlacking : CallOK cX0_passUnlacking 3 (some .boolean) RX0 5 ctb_X0_passUnlacking := CallOK_cons (site_same (rnV (pX0_passUnlacking_ok 10 _ rfl) ct_X0_passNight kX0_passNight lRX0_68 (by decide))) (CallOK_nil)
theorem ct_X0_passUnlacking : Ct yX0_passUnlacking cX0_passUnlacking 3 (some .boolean) 5 F_X0_passUnlacking := by
  intro l D σ cA sz as w K h
  obtain ⟨s, m, N, rfl, rfl, hZ, hGS, hN, hN2, h⟩ := h
  refine metL (pr := lkB pX0_passUnlacking) (rk := 2) (ct := ctb_X0_passUnlacking) (fld := lkB flX0) (cst := lkB csX0) (cstL := lkB clX0) [(2, ([true, true, true], fun n lv st w => ∃ j, j ≤ m ∧ n = m - j ∧ (∀ i, i < j → iLn (nightsS (i + 1) s) = 0) ∧ lv = [some (sR 0), some (sI (nI m)), some (sI (nI j))] ∧ st = [] ∧ w = innW (nightsS j s)))] pX0_passUnlacking_ok kX0_passUnlacking.2.2.2.2.2.2.2 fdX0 cdX0 rto2 cok_X0_passUnlacking (Nat.le_of_ble_eq_true rfl) ?_ ?_ l D σ cA sz
  · refine List.forall_mem_cons.mpr ⟨?_, cut0⟩
    rintro n lv st w ⟨j, hj, rfl, hall, rfl, rfl, rfl⟩
    obtain ⟨g1, g2⟩ := nights_keep hGS hN j (by omega)
    have hz := ZB_nights hZ hGS hN j (by omega)
    have hz1 := fun q => ZB_nights hZ hGS hN (j + 1) q
    have hsuc : nightsS (j + 1) s = nightS 0 0 (nightsS j s) := rfl
    conv => whnf
    refine ⟨fun hc => ?_, fun hc => ?_⟩
    · conv => whnf
      obtain rfl := lp_ge hj (by omega) hc
      exact kB (h _ hz) hall
    · have hjm := lp_lt hj (by omega) hc
      conv => whnf
      refine ⟨nightsS j s, 0, 0, N + j, rfl, rfl, g1, g2, by omega, ?_⟩
      rw [← hsuc]
      conv => whnf
      refine ⟨fun h0 => ?_, fun h0 => ?_⟩
      · conv => whnf
        exact ⟨m - (j + 1), by omega, j + 1, hjm, rfl, lt_s hall h0, by rw [← nI_1]; rfl, rfl, rfl⟩
      · conv => whnf
        exact kB0 (h _ (hz1 (by omega))) (fun q => h0 (q j hjm))
  · skip
    repeat' ((conv => whnf); (first | refine And.intro (by first | decide | with_reducible assumption) ?_ | with_reducible refine And.intro (fun hc => ?_) (fun hc => ?_) | with_reducible refine And.intro (fun hc => ?_) ?_ | fail))
    all_goals try (conv => whnf)
    exact ⟨m, 0, Nat.zero_le _, rfl, lt_0, rfl, rfl, rfl⟩
def adS (s : InnS) (k f w : Int32) : InnS := (upd (iK s) (ix (iG s)) k, upd (iF s) (ix (iG s)) f, upd (iW s) (ix (iG s)) w, upd (iL s) (ix (iG s)) 0, upd (iH s) (ix (iG s)) 50, iP s, iG s + 1, iT s ||| jshl 1 (iG s), iN s, iS s, iA s, iSn s, iLn s)
def F_X0_admit : Fn := fun as w K => ∃ (s : InnS) (k f wi : Int32), as = [sR 0, sI k, sI f, sI wi] ∧ w = innW s ∧ rng 8 (iG s) ∧ (7 ≤ iG s → K (some (.inl (-2))) w) ∧ (iG s < 7 → K (some (.inl (iG s))) (innW (adS s k f wi)))
def ctb_X0_admit : List (Nat × (List sv → List sc → (List sv → List sc → Prop) → Prop)) := []
theorem cok_X0_admit : CallOK cX0_admit 5 (some .int) RX0 1 ctb_X0_admit := CallOK_nil
theorem ct_X0_admit : Ct yX0_admit cX0_admit 5 (some .int) 1 F_X0_admit := by
  intro l D σ cA sz as w K h
  obtain ⟨s, k, f, wi, rfl, rfl, hG, h1, h2⟩ := h
  refine metL (pr := lkB pX0_admit) (rk := 1) (ct := ctb_X0_admit) (fld := lkB flX0) (cst := lkB csX0) (cstL := lkB clX0) [] pX0_admit_ok kX0_admit.2.2.2.2.2.2.2 fdX0 cdX0 rto1 cok_X0_admit (Nat.le_of_ble_eq_true rfl) cut0 ?_ l D σ cA sz
  conv => whnf
  refine ⟨fun hc => ?_, fun hc => ?_⟩
  · have hv : vp_in (iG s) 7 := by
      obtain ⟨G, hG7, hG⟩ := hG
      rw [hG] at hc ⊢
      exact vp_in_nI ((nI_ltI (by omega) (by decide)).mp (show nI G < nI 7 from hc)) (by decide)
    repeat' ((conv => whnf); (first | refine And.intro (by first | decide | with_reducible assumption) ?_ | with_reducible refine And.intro (fun hc => ?_) (fun hc => ?_) | with_reducible refine And.intro (fun hc => ?_) ?_ | fail))
    all_goals try (conv => whnf)
    exact h2 hc
  · conv => whnf
    exact h1 (Int32.not_lt.mp hc)
/-- an inn whose cells begin at 7 -/
def innB7 (s : InnS) : List sc := [oC 0 [sR 8, sR 9, sR 10, sR 11, sR 12, sR 13, sI (iG s), sI (iT s), sI (iN s), sI (iS s), sI (iA s), sI (iSn s), sI (iLn s)], aI 7 (iK s), aI 7 (iF s), aI 7 (iW s), aI 7 (iL s), aI 7 (iH s), aI 10 (iP s)]
def F_X0_become : Fn := fun as w K => ∃ (s o : InnS), as = [sR 0, sR 7] ∧ w = innW s ++ innB7 o ∧ ZB s ∧ ZB o ∧ K none (innW o ++ innB7 o)
theorem cpy_z {f g : PA} {n : Nat} (hf : ∀ j, n ≤ j → f j = 0) (hg : ∀ j, n ≤ j → g j = 0) : va_cpy f g 0 0 n = f := by
  funext j
  by_cases h : j < n
  · rw [pk_cpy_in (Nat.zero_le _) (by omega), Nat.zero_add, Nat.sub_zero]
  · rw [pk_cpy_out (by omega), hf j (by omega), hg j (by omega)]
def ctb_X0_become : List (Nat × (List sv → List sc → (List sv → List sc → Prop) → Prop)) := [(12, cCpy), (27, cCpy), (42, cCpy), (57, cCpy), (72, cCpy), (87, cCpy)]
theorem cok_X0_become : CallOK cX0_become 2 none RX0 1 ctb_X0_become := CallOK_cons (site_cpy (pX0_become_ok 12 _ rfl) lRX0_30 (by decide)) (CallOK_cons (site_cpy (pX0_become_ok 27 _ rfl) lRX0_30 (by decide)) (CallOK_cons (site_cpy (pX0_become_ok 42 _ rfl) lRX0_30 (by decide)) (CallOK_cons (site_cpy (pX0_become_ok 57 _ rfl) lRX0_30 (by decide)) (CallOK_cons (site_cpy (pX0_become_ok 72 _ rfl) lRX0_30 (by decide)) (CallOK_cons (site_cpy (pX0_become_ok 87 _ rfl) lRX0_30 (by decide)) (CallOK_nil))))))
theorem ct_X0_become : Ct yX0_become cX0_become 2 none 1 F_X0_become := by
  intro l D σ cA sz as w K h
  obtain ⟨s, o, rfl, rfl, hZs, hZo, h⟩ := h
  refine metL (pr := lkB pX0_become) (rk := 0) (ct := ctb_X0_become) (fld := lkB flX0) (cst := lkB csX0) (cstL := lkB clX0) [] pX0_become_ok kX0_become.2.2.2.2.2.2.2 fdX0 cdX0 rto0 cok_X0_become (Nat.le_of_ble_eq_true rfl) cut0 ?_ l D σ cA sz
  repeat' ((conv => whnf); (first | refine And.intro (by first | decide | with_reducible assumption) ?_ | with_reducible refine And.intro (fun hc => ?_) (fun hc => ?_) | with_reducible refine And.intro (fun hc => ?_) ?_ | fail))
  all_goals try (conv => whnf)
  refine kW h ?_
  have e1 := cpy_z (fun j hj => (hZo.1 j hj).1) (fun j hj => (hZs.1 j hj).1)
  have e2 := cpy_z (fun j hj => (hZo.1 j hj).2.1) (fun j hj => (hZs.1 j hj).2.1)
  have e3 := cpy_z (fun j hj => (hZo.1 j hj).2.2.1) (fun j hj => (hZs.1 j hj).2.2.1)
  have e4 := cpy_z (fun j hj => (hZo.1 j hj).2.2.2.1) (fun j hj => (hZs.1 j hj).2.2.2.1)
  have e5 := cpy_z (fun j hj => (hZo.1 j hj).2.2.2.2) (fun j hj => (hZs.1 j hj).2.2.2.2)
  have e6 := cpy_z hZo.2 hZs.2
  show innW o ++ innB7 o = [oC 0 [sR 1, sR 2, sR 3, sR 4, sR 5, sR 6, sI (iG o), sI (iT o), sI (iN o), sI (iS o), sI (iA o), sI (iSn o), sI (iLn o)], aI 7 (va_cpy (iK o) (iK s) 0 0 7), aI 7 (va_cpy (iF o) (iF s) 0 0 7), aI 7 (va_cpy (iW o) (iW s) 0 0 7), aI 7 (va_cpy (iL o) (iL s) 0 0 7), aI 7 (va_cpy (iH o) (iH s) 0 0 7), aI 10 (va_cpy (iP o) (iP s) 0 0 10)] ++ innB7 o
  rw [e1, e2, e3, e4, e5, e6]
  rfl
