/-! ===== forged, judge ===== -/
noncomputable def fiA (P : Nat → Prop) (n : Nat) : Int32 := if fst P n = n then -4 else nI (fst P n)
theorem fiA_none {P : Nat → Prop} {n : Nat} (h : ∀ i, i < n → ¬ P i) : fiA P n = -4 := by unfold fiA; rw [fst_none h, if_pos rfl]
theorem fiA_some {P : Nat → Prop} {n j : Nat} (hj : j < n) (hp : P j) (hb : ∀ i, i < j → ¬ P i) : fiA P n = nI j := by
  unfold fiA
  rw [fst_some hp hb hj, if_neg (by omega)]
def foP (s : InnS) (u : ShS) (k : Nat) : Prop := 10 ≤ k ∨ ¬ uC u k = iP s k
noncomputable def foF (s : InnS) (u : ShS) (d : Int32) : Int32 := if reF u d 2 = 0 then fiA (foP s u) (ix (uM u)) else reF u d 2
theorem sz_n {u : ShS} (hu : SH u) (h2 : uO u = 2) : ∃ n, n ≤ 100 ∧ uM u = nI n ∧ ix (uM u) = n := by
  obtain ⟨n, hn, e⟩ := (hu.2.2 h2).2
  exact ⟨n, by omega, e, by rw [e]; exact nI_clamp (by omega)⟩
theorem pl9 {j : Nat} (hj : j < 1000) : (0 ≤ nI j ∧ nI j ≤ 9) ↔ j < 10 := by
  refine ⟨fun h => ?_, fun h => ⟨nI_pos' (by omega), show nI j ≤ nI 9 from nI_le (by omega) (by decide)⟩⟩
  have := (nI_leI (by omega) (by decide)).mp (show nI j ≤ nI 9 from h.2)
  omega
def F_X5_forged : Fn := fun as w K => ∃ (r2 r4 r5 : sv) (hi : Int32) (s m : InnS) (f : Nat → Option Nat) (u : ShS) (d : Int32), as = [sR 0, sI d] ∧ w = xS r2 r4 r5 hi s m f u ∧ (0 ≤ d ∧ d ≤ 7 → f (ix d) = some 16 ∧ SH u) ∧ K (some (.inl (foF s u d))) w
def ctb_X5_forged : List (Nat × (List sv → List sc → (List sv → List sc → Prop) → Prop)) := [(2, cS (some 3) 2 F_X5_rowRefusal), (33, cS none 1 F_X5_isPlate)]
theorem cok_X5_forged : CallOK cX5_forged 5 (some .int) RX5 5 ctb_X5_forged := CallOK_cons (site_same (rnV (pX5_forged_ok 2 _ rfl) ct_X5_rowRefusal kX5_rowRefusal lRX5_44 (by decide))) (CallOK_cons (site_same (rnS (pX5_forged_ok 33 _ rfl) ct_X5_isPlate kX5_isPlate lRX5_110 (by decide))) (CallOK_nil))
theorem ct_X5_forged : Ct yX5_forged cX5_forged 5 (some .int) 5 F_X5_forged := by
  intro l D σ cA sz as w K h
  obtain ⟨r2, r4, r5, hi, s, m, f, u, d, rfl, rfl, hf, h⟩ := h
  refine metL (pr := lkB pX5_forged) (rk := 1) (ct := ctb_X5_forged) (fld := lkB flX5) (cst := lkB csX5) (cstL := lkB clX5) [(22, ([true, true, false, true, true], fun x lv st w => ∃ (j n : Nat), j ≤ n ∧ n ≤ 100 ∧ uM u = nI n ∧ ix (uM u) = n ∧ x = n - j ∧ reF u d 2 = 0 ∧ (∀ i, i < j → ¬ foP s u i) ∧ lv = [some (sR 0), some (sI d), none, some (sR 16), some (sI (nI j))] ∧ st = [] ∧ w = xS r2 r4 r5 hi s m f u))] pX5_forged_ok kX5_forged.2.2.2.2.2.2.2 fdX5 cdX5 rto1 cok_X5_forged (Nat.le_of_ble_eq_true rfl) ?_ ?_ l D σ cA sz
  · refine List.forall_mem_cons.mpr ⟨?_, cut0⟩
    rintro x lv st w ⟨j, n, hj, hn, eM, eN, rfl, hre, hall, rfl, rfl, rfl⟩
    have hr : foF s u d = fiA (foP s u) n := by unfold foF; rw [if_pos hre, eN]
    conv => whnf
    refine ⟨fun hc => ?_, fun hc => ?_⟩
    · rw [eM] at hc
      obtain rfl := lp_ge hj (by omega) hc
      conv => whnf
      exact kI h (by rw [hr, fiA_none hall])
    · rw [eM] at hc
      have hlt := lp_lt hj (by omega) hc
      have ej : (nI j).toNatClampNeg = j := nI_clamp (by omega)
      conv => whnf
      refine ⟨fun h1 => ?_, fun h1 => ?_⟩
      · have h1 : ¬ j < 10 := fun z => bp_0.mp h1 ((pl9 (by omega)).mpr z)
        conv => whnf
        exact kI h (by rw [hr, fiA_some hlt (Or.inl (by omega)) hall])
      · have h1 : j < 10 := (pl9 (by omega)).mp (bp_n h1)
        conv => whnf
        refine ⟨vp_in_nI (by omega) (by decide), ?_⟩
        rw [ej]
        conv => whnf
        refine ⟨vp_in_nI h1 (by decide), ?_⟩
        rw [ej]
        conv => whnf
        refine ⟨fun h2 => ?_, fun h2 => ?_⟩
        · conv => whnf
          exact ⟨n - (j + 1), by omega, j + 1, n, hlt, hn, eM, eN, rfl, hre, lt_s hall (fun z => z.elim (fun y => by omega) (fun y => y h2)), by rw [← nI_1]; rfl, rfl, rfl⟩
        · conv => whnf
          exact kI h (by rw [hr, fiA_some hlt (Or.inr h2) hall])
  · conv => whnf
    refine ⟨r2, r4, r5, hi, s, m, f, u, d, rfl, rfl, fun z => (hf z).1, ?_⟩
    conv => whnf
    refine ⟨fun hc => ?_, fun hc => ?_⟩
    · obtain ⟨hd, h2⟩ := re_0 hc
      obtain ⟨n, hn, eM, eN⟩ := sz_n (hf hd).2 h2
      conv => whnf
      refine ⟨sh_in hd, ?_⟩
      rw [(hf hd).1]
      conv => whnf
      exact ⟨n, 0, n, Nat.zero_le _, hn, eM, eN, rfl, hc, lt_0, rfl, rfl, rfl⟩
    · conv => whnf
      exact kI h (by unfold foF; rw [if_neg hc])
def F_X6_forged : Fn := fun as w K => ∃ (s : InnS) (q : Pm) (t : Tm) (u : ShS) (d : Int32), as = [sR 0, sI d] ∧ w = modW s q t ∧ TZ t ∧ (0 ≤ d ∧ d ≤ 7 → SR q (ix d) u ∧ SH u) ∧ ∀ a b t', TZ t' → K (some (.inl (foF s u d))) (modW (snS s a b) q t')
def ctb_X6_forged : List (Nat × (List sv → List sc → (List sv → List sc → Prop) → Prop)) := [(7, cS (some 4) 2 F_X6_wrongRow)]
theorem cok_X6_forged : CallOK cX6_forged 4 (some .int) RX6 3 ctb_X6_forged := CallOK_cons (site_same (rnV (pX6_forged_ok 7 _ rfl) ct_X6_wrongRow kX6_wrongRow lRX6_184 (by decide))) (CallOK_nil)
theorem ct_X6_forged : Ct yX6_forged cX6_forged 4 (some .int) 3 F_X6_forged := by
  intro l D σ cA sz as w K h
  obtain ⟨s, q, t, u, d, rfl, rfl, hT, hu, h⟩ := h
  have h := h (iSn s) (iLn s) (tq0 t) hT
  refine metL (pr := lkB pX6_forged) (rk := 1) (ct := ctb_X6_forged) (fld := lkB flX6) (cst := lkB csX6) (cstL := lkB clX6) [(19, ([true, true, false, true], fun x lv st w => ∃ (j n d' : Nat), j ≤ n ∧ n ≤ 100 ∧ d' < 8 ∧ d = nI d' ∧ qM q d' = nI n ∧ ix (uM u) = n ∧ (∀ i, i < n → qR q (100 * d' + i) = (uC u i).toInt64) ∧ x = n - j ∧ reF u d 2 = 0 ∧ (∀ i, i < j → ¬ foP s u i) ∧ lv = [some (sR 0), some (sI (nI d')), none, some (sI (nI j))] ∧ st = [] ∧ w = modW s q (tq0 t)))] pX6_forged_ok kX6_forged.2.2.2.2.2.2.2 fdX6 cdX6 rto1 cok_X6_forged (Nat.le_of_ble_eq_true rfl) ?_ ?_ l D σ cA sz
  · refine List.forall_mem_cons.mpr ⟨?_, cut0⟩
    rintro x lv st w ⟨j, n, d', hj, hn, hd', ed, eM, eN, hrow, rfl, hre, hall, rfl, rfl, rfl⟩
    have hr : foF s u d = fiA (foP s u) n := by unfold foF; rw [if_pos hre, eN]
    conv => whnf
    refine ⟨vp_in_nI hd' (by decide), ?_⟩
    rw [show (nI d').toNatClampNeg = d' from nI_clamp (by omega), eM]
    conv => whnf
    refine ⟨fun hc => ?_, fun hc => ?_⟩
    · obtain rfl := lp_ge hj (by omega) hc
      conv => whnf
      exact kI h (by rw [hr, fiA_none hall])
    · have hlt := lp_lt hj (by omega) hc
      have ej : (nI j).toNatClampNeg = j := nI_clamp (by omega)
      obtain ⟨r1, r2, r3⟩ := row_ix hd' (show j < 100 by omega)
      conv => whnf
      refine ⟨fun h1 => ?_, fun h1 => ?_⟩
      · have h1 : 10 ≤ j := (nI_leI (by decide) (by omega)).mp (show nI 10 ≤ nI j from h1)
        conv => whnf
        exact kI h (by rw [hr, fiA_some hlt (Or.inl h1) hall])
      · have h1 : j < 10 := Nat.not_le.mp (fun z => h1 (show nI 10 ≤ nI j from nI_le z (by omega)))
        conv => whnf
        rw [r1]
        refine ⟨r2, ?_⟩
        rw [r3, hrow j hlt]
        conv => whnf
        refine ⟨vp_in_nI h1 (by decide), ?_⟩
        rw [ej]
        conv => whnf
        refine ⟨fun h2 => ?_, fun h2 => ?_⟩
        · have h2 := (ce_ii _ _).mp h2
          conv => whnf
          exact ⟨n - (j + 1), by omega, j + 1, n, d', hlt, hn, hd', ed, eM, eN, hrow, rfl, hre, lt_s hall (fun z => z.elim (fun y => by omega) (fun y => y h2)), by rw [← nI_1]; rfl, rfl, rfl⟩
        · conv => whnf
          exact kI h (by rw [hr, fiA_some hlt (Or.inr (fun z => h2 ((ce_ii _ _).mpr z))) hall])
  · conv => whnf
    refine ⟨s, q, tq0 t, u, d, rfl, rfl, fun z => (hu z).1, ?_⟩
    conv => whnf
    refine ⟨fun hc => ?_, fun hc => ?_⟩
    · have hc := re_ge hc
      obtain ⟨hd, h2⟩ := re_0 hc
      obtain ⟨n, hn, eM, eN⟩ := sz_n (hu hd).2 h2
      obtain ⟨d', hd', ed⟩ := sh_n hd
      obtain ⟨z1, z2, z3⟩ := (hu hd).1.2.2 h2
      rw [ed, show ix (nI d') = d' from nI_clamp (by omega)] at z2 z3
      rw [eN] at z3
      rw [ed] at hc
      conv => whnf
      exact ⟨n, 0, n, d', Nat.zero_le _, hn, hd', ed, z2.trans eM, eN, z3, rfl, by rw [ed]; exact hc, lt_0, by rw [ed]; rfl, rfl, rfl⟩
    · conv => whnf
      exact kI h (by unfold foF; rw [if_neg (re_lt hc)])
def juP (s : InnS) (u : ShS) (k : Nat) : Prop := ¬ soP u k (bx_sum (iP (nightsS k s)) 10)
noncomputable def juF (s : InnS) (u : ShS) (d : Int32) : Int32 := if reF u d 2 = 0 then fiA (juP s u) (ix (uM u)) else reF u d 2
def F_X5_judge : Fn := fun as w K => ∃ (r2 r4 r5 : sv) (hi : Int32) (s m : InnS) (f : Nat → Option Nat) (u : ShS) (N : Nat) (d : Int32), as = [sR 0, sI d] ∧ w = xS r2 r4 r5 hi s m f u ∧ (0 ≤ d ∧ d ≤ 7 → f (ix d) = some 16 ∧ SH u) ∧ IV s N ∧ ZB m ∧ ∀ m', ZB m' → K (some (.inl (juF s u d))) (xS r2 r4 r5 hi s m' f u)
def ctb_X5_judge : List (Nat × (List sv → List sc → (List sv → List sc → Prop) → Prop)) := [(2, cS (some 3) 2 F_X5_rowRefusal), (20, cS (some 3) 1 F_X5_inMindE), (42, cQ [8, 9, 10, 11, 12, 13, 14] (some 0) 1 F_X0_platesInAll), (45, cQ [16, 17] (some 2) 3 F_X3_isSo), (57, cG [8, 9, 10, 11, 12, 13, 14] (some 0) 2 F_X0_pass)]
theorem cok_X5_judge : CallOK cX5_judge 6 (some .int) RX5 6 ctb_X5_judge := CallOK_cons (site_same (rnV (pX5_judge_ok 2 _ rfl) ct_X5_rowRefusal kX5_rowRefusal lRX5_44 (by decide))) (CallOK_cons (site_same (rnV (pX5_judge_ok 20 _ rfl) ct_X5_inMindE kX5_inMind lRX5_58 (by decide))) (CallOK_cons (site_q [8, 9, 10, 11, 12, 13, 14] (by decide) (rnV (pX5_judge_ok 42 _ rfl) ct_X0_platesInAll kX0_platesInAll lRX5_202 (by decide))) (CallOK_cons (site_q [16, 17] (by decide) (rnV (pX5_judge_ok 45 _ rfl) ct_X3_isSo kX3_isSo lRX5_216 (by decide))) (CallOK_cons (site_gen [8, 9, 10, 11, 12, 13, 14] (by decide) (rnV (pX5_judge_ok 57 _ rfl) ct_X0_pass kX0_pass lRX5_136 (by decide))) (CallOK_nil)))))
theorem ct_X5_judge : Ct yX5_judge cX5_judge 6 (some .int) 6 F_X5_judge := by
  intro l D σ cA sz as w K h
  obtain ⟨r2, r4, r5, hi, s, m, f, u, N, d, rfl, rfl, hf, ⟨hZ, hG, hN, hN9, hB⟩, hM, h⟩ := h
  refine metL (pr := lkB pX5_judge) (rk := 1) (ct := ctb_X5_judge) (fld := lkB flX5) (cst := lkB csX5) (cstL := lkB clX5) [(28, ([true, true, false, true, true, true], fun x lv st w => ∃ (j n : Nat), j ≤ n ∧ n ≤ 100 ∧ uM u = nI n ∧ ix (uM u) = n ∧ x = n - j ∧ reF u d 2 = 0 ∧ (∀ i, i < j → ¬ juP s u i) ∧ lv = [some (sR 0), some (sI d), none, some (sR 16), some (sR 8), some (sI (nI j))] ∧ st = [] ∧ w = xS r2 r4 r5 hi s (nightsS j s) f u))] pX5_judge_ok kX5_judge.2.2.2.2.2.2.2 fdX5 cdX5 rto1 cok_X5_judge (Nat.le_of_ble_eq_true rfl) ?_ ?_ l D σ cA sz
  · refine List.forall_mem_cons.mpr ⟨?_, cut0⟩
    rintro x lv st w ⟨j, n, hj, hn, eM, eN, rfl, hre, hall, rfl, rfl, rfl⟩
    have hr : juF s u d = fiA (juP s u) n := by unfold juF; rw [if_pos hre, eN]
    have hz := ZB_nights hZ hG hN j (by omega)
    obtain ⟨g1, g2⟩ := nights_keep hG hN j (by omega)
    conv => whnf
    refine ⟨fun hc => ?_, fun hc => ?_⟩
    · rw [eM] at hc
      obtain rfl := lp_ge hj (by omega) hc
      conv => whnf
      exact kI (h _ hz) (by rw [hr, fiA_none hall])
    · rw [eM] at hc
      have hlt := lp_lt hj (by omega) hc
      conv => whnf
      refine ⟨nightsS j s, rfl, rfl, rfl, ?_⟩
      conv => whnf
      refine ⟨u, j, _, rfl, rfl, by omega, rfl, ?_⟩
      conv => whnf
      refine ⟨fun h1 => ?_, fun h1 => ?_⟩
      · conv => whnf
        refine ⟨nightsS j s, 1, N + j, rfl, rfl, g1, g2, by omega, ?_⟩
        conv => whnf
        exact ⟨n - (j + 1), by omega, j + 1, n, hlt, hn, eM, eN, rfl, hre, lt_s hall (fun z => z (bp_n h1)), by rw [← nI_1]; rfl, rfl, rfl⟩
      · conv => whnf
        exact kI (h _ hz) (by rw [hr, fiA_some hlt (bp_0.mp h1) hall])
  · conv => whnf
    refine ⟨r2, r4, r5, hi, s, m, f, u, d, rfl, rfl, fun z => (hf z).1, ?_⟩
    conv => whnf
    refine ⟨fun hc => ?_, fun hc => ?_⟩
    · obtain ⟨hd, h2⟩ := re_0 hc
      obtain ⟨n, hn, eM, eN⟩ := sz_n (hf hd).2 h2
      conv => whnf
      refine ⟨sh_in hd, ?_⟩
      rw [(hf hd).1]
      conv => whnf
      refine ⟨r2, sR 15, r4, r5, hi, s, m, shX f u, rfl, rfl, hZ, hM, ?_⟩
      conv => whnf
      exact ⟨n, 0, n, Nat.zero_le _, hn, eM, eN, rfl, hc, lt_0, rfl, rfl, rfl⟩
    · conv => whnf
      exact kI (h _ hM) (by unfold juF; rw [if_neg hc])
def F_X6_judge : Fn := fun as w K => ∃ (s : InnS) (q : Pm) (t : Tm) (u : ShS) (N : Nat) (d : Int32), as = [sR 0, sI d] ∧ w = modW s q t ∧ TZ t ∧ IV s N ∧ (0 ≤ d ∧ d ≤ 7 → SR q (ix d) u ∧ SH u) ∧ ∀ a b t', TZ t' → K (some (.inl (juF s u d))) (modW (snS s a b) q t')
def ctb_X6_judge : List (Nat × (List sv → List sc → (List sv → List sc → Prop) → Prop)) := [(7, cS (some 4) 2 F_X6_wrongRow), (21, cS (some 4) 1 F_X6_think), (46, cS (some 4) 3 F_X6_isSkipped), (65, cS (some 4) 1 F_X6_allPlates), (82, cS (some 4) 1 F_X6_nightOn), (92, cS (some 4) 1 F_X6_again)]
theorem cok_X6_judge : CallOK cX6_judge 5 (some .int) RX6 5 ctb_X6_judge := CallOK_cons (site_same (rnV (pX6_judge_ok 7 _ rfl) ct_X6_wrongRow kX6_wrongRow lRX6_184 (by decide))) (CallOK_cons (site_same (rnV (pX6_judge_ok 21 _ rfl) ct_X6_think kX6_think lRX6_190 (by decide))) (CallOK_cons (site_same (rnV (pX6_judge_ok 46 _ rfl) ct_X6_isSkipped kX6_isSkipped lRX6_284 (by decide))) (CallOK_cons (site_same (rnV (pX6_judge_ok 65 _ rfl) ct_X6_allPlates kX6_allPlates lRX6_264 (by decide))) (CallOK_cons (site_same (rnV (pX6_judge_ok 82 _ rfl) ct_X6_nightOn kX6_nightOn lRX6_132 (by decide))) (CallOK_cons (site_same (rnV (pX6_judge_ok 92 _ rfl) ct_X6_again kX6_again lRX6_196 (by decide))) (CallOK_nil))))))
theorem ct_X6_judge : Ct yX6_judge cX6_judge 5 (some .int) 5 F_X6_judge := by
  intro l D σ cA sz as w K h
  obtain ⟨s, q, t, u, N, d, rfl, rfl, hT, ⟨hZ, hG, hN, hN9, hB⟩, hu, h⟩ := h
  have h0 := h (iSn s) (iLn s) (tq0 t) hT
  have hT0 : TZ (tq0 t) := hT
  refine metL (pr := lkB pX6_judge) (rk := 1) (ct := ctb_X6_judge) (fld := lkB flX6) (cst := lkB csX6) (cstL := lkB clX6) [(27, ([true, true, false, true, true], fun x lv st w => ∃ (j n d' : Nat) (fo : Int32) (t1 : Tm), j ≤ n ∧ n ≤ 100 ∧ d' < 8 ∧ d = nI d' ∧ qM q d' = nI n ∧ qS q d' = uS u ∧ ix (uM u) = n ∧ (∀ i, i < n → qR q (100 * d' + i) = (uC u i).toInt64) ∧ x = n - j ∧ reF u d 2 = 0 ∧ SK (tq0 t) t1 ∧ KP s t1 ∧ ((fo = -4 ∧ ∀ i, i < j → ¬ juP s u i) ∨ (0 ≤ fo ∧ fo = juF s u d)) ∧ lv = [some (sR 0), some (sI (nI d')), none, some (sI fo), some (sI (nI j))] ∧ st = [] ∧ w = modW (nightsS j s) q t1))] pX6_judge_ok kX6_judge.2.2.2.2.2.2.2 fdX6 cdX6 rto1 cok_X6_judge (Nat.le_of_ble_eq_true rfl) ?_ ?_ l D σ cA sz
  · refine List.forall_mem_cons.mpr ⟨?_, cut0⟩
    rintro x lv st w ⟨j, n, d', fo, t1, hj, hn, hd', ed, eM, eS, eN, hrow, rfl, hre, hs1, hk1, hfo, rfl, rfl, rfl⟩
    have hr : juF s u d = fiA (juP s u) n := by unfold juF; rw [if_pos hre, eN]
    have hz := ZB_nights hZ hG hN j (by omega)
    obtain ⟨g1, g2⟩ := nights_keep hG hN j (by omega)
    have hT1 := hs1.tz hT0
    have hsuc : nightsS (j + 1) s = nightS 0 0 (nightsS j s) := rfl
    conv => whnf
    refine ⟨vp_in_nI hd' (by decide), ?_⟩
    rw [show (nI d').toNatClampNeg = d' from nI_clamp (by omega), eM]
    conv => whnf
    refine ⟨fun hc => ?_, fun hc => ?_⟩
    · have ej := lp_ge hj (by omega) hc
      have hrr : juF s u d = fo := by
        rcases hfo with ⟨e, hall⟩ | e
        · rw [ej] at hall
          rw [e, hr, fiA_none hall]
        · exact e.2.symm
      conv => whnf
      refine ⟨nightsS j s, s, q, t1, rfl, rfl, hk1, hz, hZ, fun t2 hs2 hk2 => ?_⟩
      conv => whnf
      exact kI (h (iSn (nightsS j s)) (iLn (nightsS j s)) t2 (hs2.tz hT1)) hrr
    have hlt := lp_lt hj (by omega) hc
    obtain ⟨r1, r2, r3⟩ := row_ix hd' (show j < 100 by omega)
    conv => whnf
    refine ⟨fun h1 => ?_, fun h1 => ?_⟩
    · have hrr : juF s u d = fo := by
        rcases hfo with ⟨e, -⟩ | e
        · rw [e] at h1; exact absurd h1 (by decide)
        · exact e.2.symm
      conv => whnf
      refine ⟨nightsS j s, s, q, t1, rfl, rfl, hk1, hz, hZ, fun t2 hs2 hk2 => ?_⟩
      conv => whnf
      exact kI (h (iSn (nightsS j s)) (iLn (nightsS j s)) t2 (hs2.tz hT1)) hrr
    have hall : ∀ i, i < j → ¬ juP s u i := by
      rcases hfo with ⟨-, e⟩ | e
      · exact e
      · exact absurd e.1 h1
    conv => whnf
    refine ⟨nightsS j s, q, t1, u, d', j, rfl, rfl, hd', by omega, hrow j hlt, eS, ?_⟩
    conv => whnf
    refine ⟨fun h2 => ?_, fun h2 => ?_⟩
    · conv => whnf
      refine ⟨nightsS j s, q, t1, N + j, rfl, rfl, g1, g2, by omega, ?_⟩
      rw [t0_w _ _ hT1, hT1.1, hT1.2, ← hsuc]
      conv => whnf
      exact ⟨n - (j + 1), by omega, j + 1, n, d', -4, t1, hlt, hn, hd', ed, eM, eS, eN, hrow, rfl, hre, hs1, hk1, Or.inl ⟨rfl, lt_s hall (fun z => z (Or.inr (bp_n h2)))⟩, by rw [← nI_1]; rfl, rfl, rfl⟩
    · have h2 := bp_0.mp h2
      conv => whnf
      rw [r1]
      refine ⟨r2, ?_⟩
      rw [r3, hrow j hlt]
      conv => whnf
      refine ⟨nightsS j s, q, t1, rfl, rfl, ?_⟩
      conv => whnf
      refine ⟨fun h3 => ?_, fun h3 => ?_⟩
      · have h3 := (ce_ii _ _).mp h3
        conv => whnf
        refine ⟨nightsS j s, q, t1, N + j, rfl, rfl, g1, g2, by omega, ?_⟩
        rw [t0_w _ _ hT1, hT1.1, hT1.2, ← hsuc]
        conv => whnf
        exact ⟨n - (j + 1), by omega, j + 1, n, d', -4, t1, hlt, hn, hd', ed, eM, eS, eN, hrow, rfl, hre, hs1, hk1, Or.inl ⟨rfl, lt_s hall (fun z => z (Or.inl h3))⟩, by rw [← nI_1]; rfl, rfl, rfl⟩
      · conv => whnf
        refine ⟨nightsS j s, q, t1, N + j, rfl, rfl, g1, g2, by omega, ?_⟩
        rw [t0_w _ _ hT1, hT1.1, hT1.2, ← hsuc]
        conv => whnf
        exact ⟨n - (j + 1), by omega, j + 1, n, d', nI j, t1, hlt, hn, hd', ed, eM, eS, eN, hrow, rfl, hre, hs1, hk1, Or.inr ⟨nI_pos' (by omega), by rw [hr, fiA_some hlt (fun z => z.elim (fun y => h3 ((ce_ii _ _).mpr y)) h2) hall]⟩, by rw [← nI_1]; rfl, rfl, rfl⟩
  · conv => whnf
    refine ⟨s, q, tq0 t, u, d, rfl, rfl, fun z => (hu z).1, ?_⟩
    conv => whnf
    refine ⟨fun hc => ?_, fun hc => ?_⟩
    · have hc := re_ge hc
      obtain ⟨hd, h2⟩ := re_0 hc
      obtain ⟨n, hn, eM, eN⟩ := sz_n (hu hd).2 h2
      obtain ⟨d', hd', ed⟩ := sh_n hd
      obtain ⟨z1, z2, z3⟩ := (hu hd).1.2.2 h2
      rw [ed, show ix (nI d') = d' from nI_clamp (by omega)] at z1 z2 z3
      rw [eN] at z3
      conv => whnf
      refine ⟨s, q, tq0 t, rfl, rfl, fun t1 hs1 hk1 => ?_⟩
      conv => whnf
      exact ⟨n, 0, n, d', -4, t1, Nat.zero_le _, hn, hd', ed, z2.trans eM, z1, eN, z3, rfl, hc, hs1, hk1, Or.inl ⟨rfl, lt_0⟩, by rw [ed]; rfl, rfl, rfl⟩
    · conv => whnf
      exact kI h0 (by unfold juF; rw [if_neg (re_lt hc)])
