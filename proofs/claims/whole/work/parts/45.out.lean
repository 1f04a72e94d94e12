/-! ===== out, table ===== -/
/-- the first below m, or m -/
noncomputable def fst (P : Nat → Prop) : Nat → Nat
  | 0 => 0
  | m + 1 => @ite _ (fst P m < m) (Classical.propDecidable _) (fst P m) (@ite _ (P m) (Classical.propDecidable _) m (m + 1))
theorem fst_none {P : Nat → Prop} : ∀ {m : Nat}, (∀ i, i < m → ¬ P i) → fst P m = m
  | 0, _ => rfl
  | m + 1, h => by
    have e := fst_none (m := m) (fun i hi => h i (by omega))
    unfold fst
    rw [if_neg (by omega), if_neg (h m (by omega))]
theorem fst_some {P : Nat → Prop} {j : Nat} (hp : P j) (hb : ∀ i, i < j → ¬ P i) : ∀ {m : Nat}, j < m → fst P m = j
  | 0, h => by omega
  | m + 1, h => by
    unfold fst
    by_cases e : j < m
    · rw [fst_some hp hb e, if_pos e]
    · have e2 : j = m := by omega
      subst e2
      rw [fst_none hb, if_neg (by omega), if_pos hp]
noncomputable def fsA (P : Nat → Prop) : Int32 := if fst P 61 = 61 then -4 else nI (fst P 61)
theorem fsA_none {P : Nat → Prop} (h : ∀ i, i < 61 → ¬ P i) : fsA P = -4 := by unfold fsA; rw [fst_none h, if_pos rfl]
theorem fsA_some {P : Nat → Prop} {j : Nat} (hj : j < 61) (hp : P j) (hb : ∀ i, i < j → ¬ P i) : fsA P = nI j := by
  unfold fsA
  rw [fst_some hp hb hj, if_neg (by omega)]
noncomputable def ouF (s : InnS) (k : Int32) : Int32 := if 0 ≤ k ∧ k ≤ 9 then fsA (fun n => iP (nightsS n s) (ix k) = 0) else -1
def F_X5_out : Fn := fun as w K => ∃ (r2 r3 r4 r5 : sv) (hi : Int32) (s m : InnS) (N : Nat) (k : Int32), as = [sR 0, sI k] ∧ w = x2W r2 r3 r4 r5 hi s m ∧ IV s N ∧ ZB m ∧ ∀ m', ZB m' → K (some (.inl (ouF s k))) (x2W r2 r3 r4 r5 hi s m')
def ctb_X5_out : List (Nat × (List sv → List sc → (List sv → List sc → Prop) → Prop)) := [(1, cS none 1 F_X5_isPlate), (10, cS (some 3) 1 F_X5_inMind), (35, cG [8, 9, 10, 11, 12, 13, 14] (some 0) 2 F_X0_pass)]
theorem cok_X5_out : CallOK cX5_out 4 (some .int) RX5 6 ctb_X5_out := CallOK_cons (site_same (rnS (pX5_out_ok 1 _ rfl) ct_X5_isPlate kX5_isPlate lRX5_110 (by decide))) (CallOK_cons (site_same (rnV (pX5_out_ok 10 _ rfl) ct_X5_inMind kX5_inMind lRX5_58 (by decide))) (CallOK_cons (site_gen [8, 9, 10, 11, 12, 13, 14] (by decide) (rnV (pX5_out_ok 35 _ rfl) ct_X0_pass kX0_pass lRX5_136 (by decide))) (CallOK_nil)))
theorem ct_X5_out : Ct yX5_out cX5_out 4 (some .int) 6 F_X5_out := by
  intro l D σ cA sz as w K h
  obtain ⟨r2, r3, r4, r5, hi, s, m, N, k, rfl, rfl, ⟨hZ, hG, hN, hN9, hB⟩, hM, h⟩ := h
  have h0 := h m hM
  refine metL (pr := lkB pX5_out) (rk := 1) (ct := ctb_X5_out) (fld := lkB flX5) (cst := lkB csX5) (cstL := lkB clX5) [(16, ([true, true, true, true], fun n lv st w => ∃ j, j ≤ 61 ∧ n = 61 - j ∧ (0 ≤ k ∧ k ≤ 9) ∧ (∀ i, i < j → ¬ iP (nightsS i s) (ix k) = 0) ∧ lv = [some (sR 0), some (sI k), some (sR 8), some (sI (nI j))] ∧ st = [] ∧ w = x2W r2 r3 r4 r5 hi s (nightsS j s)))] pX5_out_ok kX5_out.2.2.2.2.2.2.2 fdX5 cdX5 rto1 cok_X5_out (Nat.le_of_ble_eq_true rfl) ?_ ?_ l D σ cA sz
  · refine List.forall_mem_cons.mpr ⟨?_, cut0⟩
    rintro n lv st w ⟨j, hj, rfl, hk, hall, rfl, rfl, rfl⟩
    have hz := ZB_nights hZ hG hN j (by omega)
    obtain ⟨g1, g2⟩ := nights_keep hG hN j (by omega)
    conv => whnf
    refine ⟨fun hc => ?_, fun hc => ?_⟩
    · conv => whnf
      have hj : j = 61 := by
        rcases Nat.lt_or_ge j 61 with q | q
        · exact absurd (show nI 60 < nI j from hc) (nI_nlt (by omega) (by decide))
        · omega
      subst hj
      exact kI (h _ hz) (by unfold ouF; rw [if_pos hk, fsA_none hall])
    · have hlt : j < 61 := by
        rcases Nat.lt_or_ge j 61 with q | q
        · exact q
        · exact absurd (show nI 60 < nI j from nI_lt (by omega) (by omega)) hc
      conv => whnf
      refine ⟨plate_in hk, ?_⟩
      conv => whnf
      refine ⟨fun h1 => ?_, fun h1 => ?_⟩
      · conv => whnf
        refine ⟨nightsS j s, 1, N + j, rfl, rfl, g1, g2, by omega, ?_⟩
        conv => whnf
        exact ⟨61 - (j + 1), by omega, j + 1, hlt, rfl, hk, lt_s hall h1, by rw [← nI_1]; rfl, rfl, rfl⟩
      · conv => whnf
        exact kI (h _ hz) (by unfold ouF; rw [if_pos hk, fsA_some hlt h1 hall])
  · conv => whnf
    refine ⟨fun hc1 => ?_, fun hc => ?_⟩
    rotate_left
    · conv => whnf
      exact kI h0 (by unfold ouF; rw [if_neg (bp_0.mp hc)])
    conv => whnf
    refine ⟨r2, r3, r4, r5, hi, s, m, rfl, rfl, hZ, hM, ?_⟩
    conv => whnf
    exact ⟨61, 0, by decide, rfl, bp_n hc1, lt_0, rfl, rfl, rfl⟩
def F_X6_out : Fn := fun as w K => ∃ (s : InnS) (q : Pm) (t : Tm) (N : Nat) (k : Int32), as = [sR 0, sI k] ∧ w = modW s q t ∧ TZ t ∧ IV s N ∧ ∀ a b t', TZ t' → K (some (.inl (ouF s k))) (modW (snS s a b) q t')
def ctb_X6_out : List (Nat × (List sv → List sc → (List sv → List sc → Prop) → Prop)) := [(6, cS none 1 F_X6_isPlate), (18, cS (some 4) 1 F_X6_think), (50, cS (some 4) 1 F_X6_nightOn), (60, cS (some 4) 1 F_X6_again)]
theorem cok_X6_out : CallOK cX6_out 4 (some .int) RX6 5 ctb_X6_out := CallOK_cons (site_same (rnS (pX6_out_ok 6 _ rfl) ct_X6_isPlate kX6_isPlate lRX6_220 (by decide))) (CallOK_cons (site_same (rnV (pX6_out_ok 18 _ rfl) ct_X6_think kX6_think lRX6_190 (by decide))) (CallOK_cons (site_same (rnV (pX6_out_ok 50 _ rfl) ct_X6_nightOn kX6_nightOn lRX6_132 (by decide))) (CallOK_cons (site_same (rnV (pX6_out_ok 60 _ rfl) ct_X6_again kX6_again lRX6_196 (by decide))) (CallOK_nil))))
theorem ct_X6_out : Ct yX6_out cX6_out 4 (some .int) 5 F_X6_out := by
  intro l D σ cA sz as w K h
  obtain ⟨s, q, t, N, k, rfl, rfl, hT, ⟨hZ, hG, hN, hN9, hB⟩, h⟩ := h
  have h0 := h (iSn s) (iLn s) (tq0 t) hT
  have hT0 : TZ (tq0 t) := hT
  refine metL (pr := lkB pX6_out) (rk := 1) (ct := ctb_X6_out) (fld := lkB flX6) (cst := lkB csX6) (cstL := lkB clX6) [(23, ([true, true, true, true], fun n lv st w => ∃ (j : Nat) (f : Int32) (t1 : Tm), j ≤ 61 ∧ n = 61 - j ∧ (0 ≤ k ∧ k ≤ 9) ∧ SK (tq0 t) t1 ∧ KP s t1 ∧ ((f = -4 ∧ ∀ i, i < j → ¬ iP (nightsS i s) (ix k) = 0) ∨ (0 ≤ f ∧ f = ouF s k)) ∧ lv = [some (sR 0), some (sI k), some (sI f), some (sI (nI j))] ∧ st = [] ∧ w = modW (nightsS j s) q t1))] pX6_out_ok kX6_out.2.2.2.2.2.2.2 fdX6 cdX6 rto1 cok_X6_out (Nat.le_of_ble_eq_true rfl) ?_ ?_ l D σ cA sz
  · refine List.forall_mem_cons.mpr ⟨?_, cut0⟩
    rintro n lv st w ⟨j, f, t1, hj, rfl, hk, hs1, hk1, hf, rfl, rfl, rfl⟩
    have hz := ZB_nights hZ hG hN j (by omega)
    obtain ⟨g1, g2⟩ := nights_keep hG hN j (by omega)
    have hT1 := hs1.tz hT0
    have hsuc : nightsS (j + 1) s = nightS 0 0 (nightsS j s) := rfl
    conv => whnf
    refine ⟨fun hc => ?_, fun hc => ?_⟩
    · have hj : j = 61 := by
        rcases Nat.lt_or_ge j 61 with q | q
        · exact absurd (show nI 60 < nI j from hc) (nI_nlt (by omega) (by decide))
        · omega
      have hr : ouF s k = f := by
        rcases hf with ⟨e, hall⟩ | e
        · rw [hj] at hall
          rw [e]
          unfold ouF
          rw [if_pos hk, fsA_none hall]
        · exact e.2.symm
      conv => whnf
      refine ⟨nightsS j s, s, q, t1, rfl, rfl, hk1, hz, hZ, fun t2 hs2 hk2 => ?_⟩
      conv => whnf
      exact kI (h (iSn (nightsS j s)) (iLn (nightsS j s)) t2 (hs2.tz hT1)) hr
    · have hlt : j < 61 := by
        rcases Nat.lt_or_ge j 61 with q | q
        · exact q
        · exact absurd (show nI 60 < nI j from nI_lt (by omega) (by omega)) hc
      conv => whnf
      refine ⟨fun h1 => ?_, fun h1 => ?_⟩
      · have hr : ouF s k = f := by
          rcases hf with ⟨e, -⟩ | e
          · rw [e] at h1; exact absurd h1 (by decide)
          · exact e.2.symm
        conv => whnf
        refine ⟨nightsS j s, s, q, t1, rfl, rfl, hk1, hz, hZ, fun t2 hs2 hk2 => ?_⟩
        conv => whnf
        exact kI (h (iSn (nightsS j s)) (iLn (nightsS j s)) t2 (hs2.tz hT1)) hr
      · have hall : ∀ i, i < j → ¬ iP (nightsS i s) (ix k) = 0 := by
          rcases hf with ⟨-, e⟩ | e
          · exact e
          · exact absurd e.1 h1
        conv => whnf
        refine ⟨plate_in hk, ?_⟩
        conv => whnf
        refine ⟨fun h2 => ?_, fun h2 => ?_⟩
        · conv => whnf
          refine ⟨nightsS j s, q, t1, N + j, rfl, rfl, g1, g2, by omega, ?_⟩
          rw [t0_w _ _ hT1, hT1.1, hT1.2, ← hsuc]
          conv => whnf
          exact ⟨61 - (j + 1), by omega, j + 1, -4, t1, hlt, rfl, hk, hs1, hk1, Or.inl ⟨rfl, lt_s hall h2⟩, by rw [← nI_1]; rfl, rfl, rfl⟩
        · conv => whnf
          refine ⟨nightsS j s, q, t1, N + j, rfl, rfl, g1, g2, by omega, ?_⟩
          rw [t0_w _ _ hT1, hT1.1, hT1.2, ← hsuc]
          conv => whnf
          exact ⟨61 - (j + 1), by omega, j + 1, nI j, t1, hlt, rfl, hk, hs1, hk1, Or.inr ⟨nI_pos' (by omega), by unfold ouF; rw [if_pos hk, fsA_some hlt h2 hall]⟩, by rw [← nI_1]; rfl, rfl, rfl⟩
  · conv => whnf
    refine ⟨fun hc1 => ?_, fun hc => ?_⟩
    rotate_left
    · conv => whnf
      exact kI h0 (by unfold ouF; rw [if_neg (bp_0.mp hc)])
    conv => whnf
    refine ⟨s, q, tq0 t, rfl, rfl, fun t1 hs1 hk1 => ?_⟩
    conv => whnf
    exact ⟨61, 0, -4, t1, by decide, rfl, bp_n hc1, hs1, hk1, Or.inl ⟨rfl, lt_0⟩, rfl, rfl, rfl⟩
noncomputable def taF (s : InnS) (g what : Int32) : Int32 := if (0 ≤ g ∧ g ≤ iG s - 1) ∧ (0 ≤ what ∧ what ≤ 1) then (if what = 0 then ndS s g else bp (tb (iSn (nightsS 1 s)) g)) else -1
theorem bp_tb (t g : Int32) : bp (tb t g) = jshr t g &&& 1 := by
  rcases and1_01 (jshr t g) with e | e
  · rw [bp_f (fun q => q e), e]
  · rw [bp_t (show tb t g from fun q => by rw [e] at q; exact absurd q (by decide)), e]
def F_X5_table : Fn := fun as w K => ∃ (r2 r3 r4 r5 : sv) (hi : Int32) (s m : InnS) (N : Nat) (g what : Int32), as = [sR 0, sI g, sI what] ∧ w = x2W r2 r3 r4 r5 hi s m ∧ IV s N ∧ ZB m ∧ ∀ m', ZB m' → K (some (.inl (taF s g what))) (x2W r2 r3 r4 r5 hi s m')
theorem kn_f2 {s : InnS} {g : Int32} (hG : GS s) (h : 0 ≤ g ∧ g ≤ iG s - 1) : 0 < iF s (ix g) + 2 := by
  obtain ⟨G, hG7, hGG⟩ := hG.2.1
  obtain ⟨j, hj, ej⟩ := kn hG7 (by rw [← hGG]; exact h)
  rw [ej, show ix (nI j) = j from nI_clamp (by omega)]
  exact rng_f2 (hG.1 j (by omega)).1
def ctb_X5_table : List (Nat × (List sv → List sc → (List sv → List sc → Prop) → Prop)) := [(5, cG [1, 2, 3, 4, 5, 6, 7] (some 0) 2 F_X0_knows), (14, cS none 3 F_X5_within), (31, cG [1, 2, 3, 4, 5, 6, 7] (some 0) 2 F_X0_nextDream), (36, cS (some 3) 1 F_X5_inMind), (42, cG [8, 9, 10, 11, 12, 13, 14] (some 0) 2 F_X0_pass)]
theorem cok_X5_table : CallOK cX5_table 4 (some .int) RX5 6 ctb_X5_table := CallOK_cons (site_gen [1, 2, 3, 4, 5, 6, 7] (by decide) (rnV (pX5_table_ok 5 _ rfl) ct_X0_knows kX0_knows lRX5_80 (by decide))) (CallOK_cons (site_same (rnS (pX5_table_ok 14 _ rfl) ct_X5_within kX5_within lRX5_129 (by decide))) (CallOK_cons (site_gen [1, 2, 3, 4, 5, 6, 7] (by decide) (rnV (pX5_table_ok 31 _ rfl) ct_X0_nextDream kX0_nextDream lRX5_164 (by decide))) (CallOK_cons (site_same (rnV (pX5_table_ok 36 _ rfl) ct_X5_inMind kX5_inMind lRX5_58 (by decide))) (CallOK_cons (site_gen [8, 9, 10, 11, 12, 13, 14] (by decide) (rnV (pX5_table_ok 42 _ rfl) ct_X0_pass kX0_pass lRX5_136 (by decide))) (CallOK_nil)))))
theorem ct_X5_table : Ct yX5_table cX5_table 4 (some .int) 6 F_X5_table := by
  intro l D σ cA sz as w K h
  obtain ⟨r2, r3, r4, r5, hi, s, m, N, g, what, rfl, rfl, ⟨hZ, hG, hN, hN9, hB⟩, hM, h⟩ := h
  have h0 := h m hM
  refine metL (pr := lkB pX5_table) (rk := 1) (ct := ctb_X5_table) (fld := lkB flX5) (cst := lkB csX5) (cstL := lkB clX5) [] pX5_table_ok kX5_table.2.2.2.2.2.2.2 fdX5 cdX5 rto1 cok_X5_table (Nat.le_of_ble_eq_true rfl) cut0 ?_ l D σ cA sz
  conv => whnf
  refine ⟨s, g, rfl, rfl, ?_⟩
  conv => whnf
  refine ⟨fun hc => ?_, fun hc1 => ?_⟩
  · conv => whnf
    exact kI h0 (by unfold taF; rw [if_neg (fun q => bp_0.mp hc q.1)])
  conv => whnf
  refine ⟨fun hc2 => ?_, fun hc => ?_⟩
  rotate_left
  · conv => whnf
    exact kI h0 (by unfold taF; rw [if_neg (fun q => bp_0.mp hc q.2)])
  have c1 := bp_n hc1
  have c2 := bp_n hc2
  have hv := kn_in hG c1
  have hr : taF s g what = if what = 0 then ndS s g else bp (tb (iSn (nightsS 1 s)) g) := by unfold taF; rw [if_pos ⟨c1, c2⟩]
  conv => whnf
  refine ⟨fun hw => ?_, fun hw => ?_⟩
  · conv => whnf
    refine ⟨r2, r3, r4, r5, hi, s, m, rfl, rfl, hZ, hM, ?_⟩
    conv => whnf
    refine ⟨s, 1, N, rfl, rfl, hG, hN, by omega, ?_⟩
    conv => whnf
    exact kI (h _ (ZB_nights hZ hG hN 1 (by omega))) (by rw [hr, if_neg hw, bp_tb])
  · conv => whnf
    refine ⟨s, g, rfl, rfl, hv, kn_f2 hG c1, ?_⟩
    conv => whnf
    exact kI h0 (by rw [hr, if_pos hw])
def F_X6_table : Fn := fun as w K => ∃ (s : InnS) (q : Pm) (t : Tm) (N : Nat) (g what : Int32), as = [sR 0, sI g, sI what] ∧ w = modW s q t ∧ TZ t ∧ IV s N ∧ ∀ a b t', TZ t' → K (some (.inl (taF s g what))) (modW (snS s a b) q t')
def ctb_X6_table : List (Nat × (List sv → List sc → (List sv → List sc → Prop) → Prop)) := [(7, cS (some 4) 2 F_X6_isOne), (17, cS none 3 F_X6_in), (31, cS (some 4) 2 F_X6_dreamsNext), (36, cS (some 4) 1 F_X6_think), (40, cS (some 4) 1 F_X6_nightOn), (48, cS none 2 F_X6_hasBit), (61, cS (some 4) 1 F_X6_again)]
theorem cok_X6_table : CallOK cX6_table 4 (some .int) RX6 5 ctb_X6_table := CallOK_cons (site_same (rnV (pX6_table_ok 7 _ rfl) ct_X6_isOne kX6_isOne lRX6_171 (by decide))) (CallOK_cons (site_same (rnS (pX6_table_ok 17 _ rfl) ct_X6_in kX6_in lRX6_81 (by decide))) (CallOK_cons (site_same (rnV (pX6_table_ok 31 _ rfl) ct_X6_dreamsNext kX6_dreamsNext lRX6_238 (by decide))) (CallOK_cons (site_same (rnV (pX6_table_ok 36 _ rfl) ct_X6_think kX6_think lRX6_190 (by decide))) (CallOK_cons (site_same (rnV (pX6_table_ok 40 _ rfl) ct_X6_nightOn kX6_nightOn lRX6_132 (by decide))) (CallOK_cons (site_same (rnS (pX6_table_ok 48 _ rfl) ct_X6_hasBit kX6_hasBit lRX6_105 (by decide))) (CallOK_cons (site_same (rnV (pX6_table_ok 61 _ rfl) ct_X6_again kX6_again lRX6_196 (by decide))) (CallOK_nil)))))))
theorem ct_X6_table : Ct yX6_table cX6_table 4 (some .int) 5 F_X6_table := by
  intro l D σ cA sz as w K h
  obtain ⟨s, q, t, N, g, what, rfl, rfl, hT, ⟨hZ, hG, hN, hN9, hB⟩, h⟩ := h
  have h0 := h (iSn s) (iLn s) (tq0 t) hT
  have hT0 : TZ (tq0 t) := hT
  refine metL (pr := lkB pX6_table) (rk := 1) (ct := ctb_X6_table) (fld := lkB flX6) (cst := lkB csX6) (cstL := lkB clX6) [] pX6_table_ok kX6_table.2.2.2.2.2.2.2 fdX6 cdX6 rto1 cok_X6_table (Nat.le_of_ble_eq_true rfl) cut0 ?_ l D σ cA sz
  conv => whnf
  refine ⟨s, q, tq0 t, g, rfl, rfl, ?_⟩
  conv => whnf
  refine ⟨fun hc => ?_, fun hc1 => ?_⟩
  · conv => whnf
    exact kI h0 (by unfold taF; rw [if_neg (fun q => bp_0.mp hc q.1)])
  conv => whnf
  refine ⟨fun hc2 => ?_, fun hc => ?_⟩
  rotate_left
  · conv => whnf
    have hc := bp_0.mp ((in_ii 0 what 1).symm.trans hc)
    exact kI h0 (by unfold taF; rw [if_neg (fun q => hc q.2)])
  have c1 := bp_n hc1
  have c2 := bp_n (fun z => hc2 ((in_ii 0 what 1).trans z))
  have hv := kn_in hG c1
  have hr : taF s g what = if what = 0 then ndS s g else bp (tb (iSn (nightsS 1 s)) g) := by unfold taF; rw [if_pos ⟨c1, c2⟩]
  have hz := ZB_nights hZ hG hN 1 (by omega)
  conv => whnf
  refine ⟨fun hw => ?_, fun hw => ?_⟩
  · conv => whnf
    refine ⟨s, q, tq0 t, rfl, rfl, fun t1 hs1 hk1 => ?_⟩
    have hT1 := hs1.tz hT0
    conv => whnf
    refine ⟨s, q, t1, N, rfl, rfl, hG, hN, by omega, ?_⟩
    rw [t0_w _ _ hT1, hT1.1, hT1.2, show nightS 0 0 s = nightsS 1 s from rfl]
    repeat' ((conv => whnf); (first | refine And.intro (by first | decide | with_reducible assumption) ?_ | with_reducible refine And.intro (fun hc => ?_) (fun hc => ?_) | with_reducible refine And.intro (fun hc => ?_) ?_ | fail))
    all_goals try (conv => whnf)
    · refine ⟨nightsS 1 s, s, q, t1, rfl, rfl, hk1, hz, hZ, fun t2 hs2 hk2 => ?_⟩
      conv => whnf
      exact kI (h (iSn (nightsS 1 s)) (iLn (nightsS 1 s)) t2 (hs2.tz hT1)) (by rw [hr, if_neg hw, hc])
    · refine ⟨nightsS 1 s, s, q, t1, rfl, rfl, hk1, hz, hZ, fun t2 hs2 hk2 => ?_⟩
      conv => whnf
      exact kI (h (iSn (nightsS 1 s)) (iLn (nightsS 1 s)) t2 (hs2.tz hT1)) (by rw [hr, if_neg hw, bp_t (bp_n hc)])
  · conv => whnf
    refine ⟨s, q, tq0 t, g, rfl, rfl, hv, kn_f2 hG c1, ?_⟩
    conv => whnf
    exact kI h0 (by rw [hr, if_pos hw])
