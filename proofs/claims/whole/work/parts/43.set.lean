/-! ===== wishes, heals, fills, nights, count ===== -/
def wiC (s : InnS) (g k : Int32) : Prop := (0 ≤ g ∧ g ≤ iG s - 1) ∧ (0 ≤ k ∧ k ≤ 9)
noncomputable def wiR (s : InnS) (g k : Int32) : Int32 := @ite _ (wiC s g k) (Classical.propDecidable _) (iW s (ix g)) (-1)
noncomputable def wiS (s : InnS) (g k : Int32) : InnS := @ite _ (wiC s g k) (Classical.propDecidable _) (iK s, iF s, upd (iW s) (ix g) k, iL s, iH s, iP s, iG s, iT s, iN s, iS s, iA s, iSn s, iLn s) s
def heC (s : InnS) (g v : Int32) : Prop := (0 ≤ g ∧ g ≤ iG s - 1) ∧ (1 ≤ v ∧ v ≤ 99)
noncomputable def heR (s : InnS) (g v : Int32) : Int32 := @ite _ (heC s g v) (Classical.propDecidable _) (@ite _ (tb (iT s) g) (Classical.propDecidable _) (iH s (ix g)) (-3)) (-1)
noncomputable def heS (s : InnS) (g v : Int32) : InnS := @ite _ (heC s g v ∧ tb (iT s) g) (Classical.propDecidable _) (iK s, iF s, iW s, iL s, upd (iH s) (ix g) v, iP s, iG s, iT s, iN s, iS s, iA s, iSn s, iLn s) s
def fiC (k v : Int32) : Prop := (0 ≤ k ∧ k ≤ 9) ∧ (0 ≤ v ∧ v ≤ 99)
noncomputable def fiR (s : InnS) (k v : Int32) : Int32 := @ite _ (fiC k v) (Classical.propDecidable _) (iP s (ix k)) (-1)
noncomputable def fiS (s : InnS) (k v : Int32) : InnS := @ite _ (fiC k v) (Classical.propDecidable _) (iK s, iF s, iW s, iL s, iH s, upd (iP s) (ix k) v, iG s, iT s, iN s, iS s, iA s, iSn s, iLn s) s
noncomputable def niR (s : InnS) (n : Int32) : Int32 := if 1 ≤ n ∧ n ≤ 60 then (if 999 < iN s + n then -3 else pop (iT (nightsS (ix n) s))) else -1
noncomputable def niS (s : InnS) (n : Int32) : InnS := if (1 ≤ n ∧ n ≤ 60) ∧ ¬ 999 < iN s + n then nightsS (ix n) s else s
def coF (s : InnS) (what : Int32) : Int32 := if what = 0 then iG s else if what = 1 then iN s else if what = 2 then iS s else if what = 3 then iA s else if what = 4 then iT s else if what = 5 then bx_sum (iP s) 10 else -1
theorem kn_in {s : InnS} {g : Int32} (hG : GS s) (h : 0 ≤ g ∧ g ≤ iG s - 1) : vp_in g 7 := by
  obtain ⟨G, hG7, hGG⟩ := hG.2.1
  obtain ⟨j, hj, ej⟩ := kn hG7 (by rw [← hGG]; exact h)
  rw [ej]; exact vp_in_nI (by omega) (by decide)
def F_X6_wishes : Fn := fun as w K => ∃ (s : InnS) (q : Pm) (t : Tm) (g k : Int32), as = [sR 0, sI g, sI k] ∧ w = modW s q t ∧ TZ t ∧ GS s ∧ ∀ a b t', TZ t' → K (some (.inl (wiR s g k))) (modW (snS (wiS s g k) a b) q t')
def ctb_X6_wishes : List (Nat × (List sv → List sc → (List sv → List sc → Prop) → Prop)) := [(7, cS (some 4) 2 F_X6_isOne), (14, cS none 1 F_X6_isPlate)]
theorem cok_X6_wishes : CallOK cX6_wishes 4 (some .int) RX6 3 ctb_X6_wishes := CallOK_cons (site_same (rnV (pX6_wishes_ok 7 _ rfl) ct_X6_isOne kX6_isOne lRX6_171 (by decide))) (CallOK_cons (site_same (rnS (pX6_wishes_ok 14 _ rfl) ct_X6_isPlate kX6_isPlate lRX6_220 (by decide))) (CallOK_nil))
theorem ct_X6_wishes : Ct yX6_wishes cX6_wishes 4 (some .int) 3 F_X6_wishes := by
  intro l D σ cA sz as w K h
  obtain ⟨s, q, t, g, k, rfl, rfl, hT, hG, h⟩ := h
  refine metL (pr := lkB pX6_wishes) (rk := 1) (ct := ctb_X6_wishes) (fld := lkB flX6) (cst := lkB csX6) (cstL := lkB clX6) [] pX6_wishes_ok kX6_wishes.2.2.2.2.2.2.2 fdX6 cdX6 rto1 cok_X6_wishes (Nat.le_of_ble_eq_true rfl) cut0 ?_ l D σ cA sz
  conv => whnf
  refine ⟨s, q, tq0 t, g, rfl, rfl, ?_⟩
  conv => whnf
  refine ⟨fun hc => ?_, fun hc1 => ?_⟩
  · conv => whnf
    have hn : ¬ wiC s g k := fun q => bp_0.mp hc q.1
    rw [wiR, wiS, if_neg hn, if_neg hn] at h
    exact h (iSn s) (iLn s) (tq0 t) hT
  conv => whnf
  refine ⟨fun hc2 => ?_, fun hc => ?_⟩
  rotate_left
  · conv => whnf
    have hn : ¬ wiC s g k := fun q => bp_0.mp hc q.2
    rw [wiR, wiS, if_neg hn, if_neg hn] at h
    exact h (iSn s) (iLn s) (tq0 t) hT
  have hn : wiC s g k := ⟨bp_n hc1, bp_n hc2⟩
  have hv := kn_in hG hn.1
  rw [wiR, wiS, if_pos hn, if_pos hn] at h
  repeat' ((conv => whnf); (first | refine And.intro (by first | decide | with_reducible assumption) ?_ | with_reducible refine And.intro (fun hc => ?_) (fun hc => ?_) | with_reducible refine And.intro (fun hc => ?_) ?_ | fail))
  all_goals try (conv => whnf)
  exact h (iSn s) (iLn s) (tq0 t) hT
def F_X5_wishes : Fn := fun as w K => ∃ (r1 r2 r3 r4 r5 : sv) (hi : Int32) (s : InnS) (g k : Int32), as = [sR 0, sI g, sI k] ∧ w = x1W r1 r2 r3 r4 r5 hi s ∧ GS s ∧ K (some (.inl (wiR s g k))) (x1W r1 r2 r3 r4 r5 hi (wiS s g k))
def ctb_X5_wishes : List (Nat × (List sv → List sc → (List sv → List sc → Prop) → Prop)) := [(5, cG [1, 2, 3, 4, 5, 6, 7] (some 0) 2 F_X0_knows), (12, cS none 1 F_X5_isPlate)]
theorem cok_X5_wishes : CallOK cX5_wishes 4 (some .int) RX5 3 ctb_X5_wishes := CallOK_cons (site_gen [1, 2, 3, 4, 5, 6, 7] (by decide) (rnV (pX5_wishes_ok 5 _ rfl) ct_X0_knows kX0_knows lRX5_80 (by decide))) (CallOK_cons (site_same (rnS (pX5_wishes_ok 12 _ rfl) ct_X5_isPlate kX5_isPlate lRX5_110 (by decide))) (CallOK_nil))
theorem ct_X5_wishes : Ct yX5_wishes cX5_wishes 4 (some .int) 3 F_X5_wishes := by
  intro l D σ cA sz as w K h
  obtain ⟨r1, r2, r3, r4, r5, hi, s, g, k, rfl, rfl, hG, h⟩ := h
  refine metL (pr := lkB pX5_wishes) (rk := 1) (ct := ctb_X5_wishes) (fld := lkB flX5) (cst := lkB csX5) (cstL := lkB clX5) [] pX5_wishes_ok kX5_wishes.2.2.2.2.2.2.2 fdX5 cdX5 rto1 cok_X5_wishes (Nat.le_of_ble_eq_true rfl) cut0 ?_ l D σ cA sz
  conv => whnf
  refine ⟨s, g, rfl, rfl, ?_⟩
  conv => whnf
  refine ⟨fun hc => ?_, fun hc1 => ?_⟩
  · conv => whnf
    have hn : ¬ wiC s g k := fun q => bp_0.mp hc q.1
    rw [wiR, wiS, if_neg hn, if_neg hn] at h
    exact h
  conv => whnf
  refine ⟨fun hc2 => ?_, fun hc => ?_⟩
  rotate_left
  · conv => whnf
    have hn : ¬ wiC s g k := fun q => bp_0.mp hc q.2
    rw [wiR, wiS, if_neg hn, if_neg hn] at h
    exact h
  have hn : wiC s g k := ⟨bp_n hc1, bp_n hc2⟩
  have hv := kn_in hG hn.1
  rw [wiR, wiS, if_pos hn, if_pos hn] at h
  repeat' ((conv => whnf); (first | refine And.intro (by first | decide | with_reducible assumption) ?_ | with_reducible refine And.intro (fun hc => ?_) (fun hc => ?_) | with_reducible refine And.intro (fun hc => ?_) ?_ | fail))
  all_goals try (conv => whnf)
  exact h
def F_X6_heals : Fn := fun as w K => ∃ (s : InnS) (q : Pm) (t : Tm) (g v : Int32), as = [sR 0, sI g, sI v] ∧ w = modW s q t ∧ TZ t ∧ GS s ∧ ∀ a b t', TZ t' → K (some (.inl (heR s g v))) (modW (snS (heS s g v) a b) q t')
def ctb_X6_heals : List (Nat × (List sv → List sc → (List sv → List sc → Prop) → Prop)) := [(7, cS (some 4) 2 F_X6_isOne), (19, cS none 3 F_X6_in), (32, cS none 2 F_X6_hasBit)]
theorem cok_X6_heals : CallOK cX6_heals 4 (some .int) RX6 3 ctb_X6_heals := CallOK_cons (site_same (rnV (pX6_heals_ok 7 _ rfl) ct_X6_isOne kX6_isOne lRX6_171 (by decide))) (CallOK_cons (site_same (rnS (pX6_heals_ok 19 _ rfl) ct_X6_in kX6_in lRX6_81 (by decide))) (CallOK_cons (site_same (rnS (pX6_heals_ok 32 _ rfl) ct_X6_hasBit kX6_hasBit lRX6_105 (by decide))) (CallOK_nil)))
theorem ct_X6_heals : Ct yX6_heals cX6_heals 4 (some .int) 3 F_X6_heals := by
  intro l D σ cA sz as w K h
  obtain ⟨s, q, t, g, v, rfl, rfl, hT, hG, h⟩ := h
  refine metL (pr := lkB pX6_heals) (rk := 1) (ct := ctb_X6_heals) (fld := lkB flX6) (cst := lkB csX6) (cstL := lkB clX6) [] pX6_heals_ok kX6_heals.2.2.2.2.2.2.2 fdX6 cdX6 rto1 cok_X6_heals (Nat.le_of_ble_eq_true rfl) cut0 ?_ l D σ cA sz
  conv => whnf
  refine ⟨s, q, tq0 t, g, rfl, rfl, ?_⟩
  conv => whnf
  refine ⟨fun hc => ?_, fun hc1 => ?_⟩
  · conv => whnf
    have hn : ¬ heC s g v := fun q => bp_0.mp hc q.1
    rw [heR, heS, if_neg hn, if_neg (fun q => hn q.1)] at h
    exact h (iSn s) (iLn s) (tq0 t) hT
  conv => whnf
  refine ⟨fun hc2 => ?_, fun hc => ?_⟩
  rotate_left
  · conv => whnf
    have hc := bp_0.mp ((in_ii 1 v 99).symm.trans hc)
    have hn : ¬ heC s g v := fun q => hc q.2
    rw [heR, heS, if_neg hn, if_neg (fun q => hn q.1)] at h
    exact h (iSn s) (iLn s) (tq0 t) hT
  have hn : heC s g v := ⟨bp_n hc1, bp_n (fun z => hc2 ((in_ii 1 v 99).trans z))⟩
  have hv := kn_in hG hn.1
  rw [heR, if_pos hn] at h
  conv => whnf
  refine ⟨fun hb => ?_, fun hb => ?_⟩
  · have hb := bp_n hb
    rw [heS, if_pos hb, if_pos ⟨hn, hb⟩] at h
    repeat' ((conv => whnf); (first | refine And.intro (by first | decide | with_reducible assumption) ?_ | with_reducible refine And.intro (fun hc => ?_) (fun hc => ?_) | with_reducible refine And.intro (fun hc => ?_) ?_ | fail))
    all_goals try (conv => whnf)
    exact h (iSn s) (iLn s) (tq0 t) hT
  · have hb := bp_0.mp hb
    rw [heS, if_neg hb, if_neg (fun q => hb q.2)] at h
    conv => whnf
    exact h (iSn s) (iLn s) (tq0 t) hT
def F_X5_heals : Fn := fun as w K => ∃ (r1 r2 r3 r4 r5 : sv) (hi : Int32) (s : InnS) (g v : Int32), as = [sR 0, sI g, sI v] ∧ w = x1W r1 r2 r3 r4 r5 hi s ∧ GS s ∧ K (some (.inl (heR s g v))) (x1W r1 r2 r3 r4 r5 hi (heS s g v))
def ctb_X5_heals : List (Nat × (List sv → List sc → (List sv → List sc → Prop) → Prop)) := [(5, cG [1, 2, 3, 4, 5, 6, 7] (some 0) 2 F_X0_knows), (15, cS none 3 F_X5_within), (28, cG [1, 2, 3, 4, 5, 6, 7] (some 0) 2 F_X0_isThere)]
theorem cok_X5_heals : CallOK cX5_heals 4 (some .int) RX5 3 ctb_X5_heals := CallOK_cons (site_gen [1, 2, 3, 4, 5, 6, 7] (by decide) (rnV (pX5_heals_ok 5 _ rfl) ct_X0_knows kX0_knows lRX5_80 (by decide))) (CallOK_cons (site_same (rnS (pX5_heals_ok 15 _ rfl) ct_X5_within kX5_within lRX5_129 (by decide))) (CallOK_cons (site_gen [1, 2, 3, 4, 5, 6, 7] (by decide) (rnV (pX5_heals_ok 28 _ rfl) ct_X0_isThere kX0_isThere lRX5_98 (by decide))) (CallOK_nil)))
theorem ct_X5_heals : Ct yX5_heals cX5_heals 4 (some .int) 3 F_X5_heals := by
  intro l D σ cA sz as w K h
  obtain ⟨r1, r2, r3, r4, r5, hi, s, g, v, rfl, rfl, hG, h⟩ := h
  refine metL (pr := lkB pX5_heals) (rk := 1) (ct := ctb_X5_heals) (fld := lkB flX5) (cst := lkB csX5) (cstL := lkB clX5) [] pX5_heals_ok kX5_heals.2.2.2.2.2.2.2 fdX5 cdX5 rto1 cok_X5_heals (Nat.le_of_ble_eq_true rfl) cut0 ?_ l D σ cA sz
  conv => whnf
  refine ⟨s, g, rfl, rfl, ?_⟩
  conv => whnf
  refine ⟨fun hc => ?_, fun hc1 => ?_⟩
  · conv => whnf
    have hn : ¬ heC s g v := fun q => bp_0.mp hc q.1
    rw [heR, heS, if_neg hn, if_neg (fun q => hn q.1)] at h
    exact h
  conv => whnf
  refine ⟨fun hc2 => ?_, fun hc => ?_⟩
  rotate_left
  · conv => whnf
    have hn : ¬ heC s g v := fun q => bp_0.mp hc q.2
    rw [heR, heS, if_neg hn, if_neg (fun q => hn q.1)] at h
    exact h
  have hn : heC s g v := ⟨bp_n hc1, bp_n hc2⟩
  have hv := kn_in hG hn.1
  rw [heR, if_pos hn] at h
  conv => whnf
  refine ⟨s, g, rfl, rfl, ?_⟩
  conv => whnf
  refine ⟨fun hb => ?_, fun hb => ?_⟩
  · have hb := bp_n hb
    rw [heS, if_pos hb, if_pos ⟨hn, hb⟩] at h
    repeat' ((conv => whnf); (first | refine And.intro (by first | decide | with_reducible assumption) ?_ | with_reducible refine And.intro (fun hc => ?_) (fun hc => ?_) | with_reducible refine And.intro (fun hc => ?_) ?_ | fail))
    all_goals try (conv => whnf)
    exact h
  · have hb := bp_0.mp hb
    rw [heS, if_neg hb, if_neg (fun q => hb q.2)] at h
    conv => whnf
    exact h
def F_X6_fills : Fn := fun as w K => ∃ (s : InnS) (q : Pm) (t : Tm) (k v : Int32), as = [sR 0, sI k, sI v] ∧ w = modW s q t ∧ TZ t ∧ ∀ a b t', TZ t' → K (some (.inl (fiR s k v))) (modW (snS (fiS s k v) a b) q t')
def ctb_X6_fills : List (Nat × (List sv → List sc → (List sv → List sc → Prop) → Prop)) := [(6, cS none 1 F_X6_isPlate), (18, cS none 3 F_X6_in)]
theorem cok_X6_fills : CallOK cX6_fills 4 (some .int) RX6 3 ctb_X6_fills := CallOK_cons (site_same (rnS (pX6_fills_ok 6 _ rfl) ct_X6_isPlate kX6_isPlate lRX6_220 (by decide))) (CallOK_cons (site_same (rnS (pX6_fills_ok 18 _ rfl) ct_X6_in kX6_in lRX6_81 (by decide))) (CallOK_nil))
theorem ct_X6_fills : Ct yX6_fills cX6_fills 4 (some .int) 3 F_X6_fills := by
  intro l D σ cA sz as w K h
  obtain ⟨s, q, t, k, v, rfl, rfl, hT, h⟩ := h
  refine metL (pr := lkB pX6_fills) (rk := 1) (ct := ctb_X6_fills) (fld := lkB flX6) (cst := lkB csX6) (cstL := lkB clX6) [] pX6_fills_ok kX6_fills.2.2.2.2.2.2.2 fdX6 cdX6 rto1 cok_X6_fills (Nat.le_of_ble_eq_true rfl) cut0 ?_ l D σ cA sz
  conv => whnf
  refine ⟨fun hc => ?_, fun hc1 => ?_⟩
  · conv => whnf
    have hn : ¬ fiC k v := fun q => bp_0.mp hc q.1
    rw [fiR, fiS, if_neg hn, if_neg hn] at h
    exact h (iSn s) (iLn s) (tq0 t) hT
  conv => whnf
  refine ⟨fun hc2 => ?_, fun hc => ?_⟩
  rotate_left
  · conv => whnf
    have hc := bp_0.mp ((in_ii 0 v 99).symm.trans hc)
    have hn : ¬ fiC k v := fun q => hc q.2
    rw [fiR, fiS, if_neg hn, if_neg hn] at h
    exact h (iSn s) (iLn s) (tq0 t) hT
  have hn : fiC k v := ⟨bp_n hc1, bp_n (fun z => hc2 ((in_ii 0 v 99).trans z))⟩
  have hv := plate_in hn.1
  rw [fiR, fiS, if_pos hn, if_pos hn] at h
  repeat' ((conv => whnf); (first | refine And.intro (by first | decide | with_reducible assumption) ?_ | with_reducible refine And.intro (fun hc => ?_) (fun hc => ?_) | with_reducible refine And.intro (fun hc => ?_) ?_ | fail))
  all_goals try (conv => whnf)
  exact h (iSn s) (iLn s) (tq0 t) hT
def F_X5_fills : Fn := fun as w K => ∃ (r1 r2 r3 r4 r5 : sv) (hi : Int32) (s : InnS) (k v : Int32), as = [sR 0, sI k, sI v] ∧ w = x1W r1 r2 r3 r4 r5 hi s ∧ K (some (.inl (fiR s k v))) (x1W r1 r2 r3 r4 r5 hi (fiS s k v))
def ctb_X5_fills : List (Nat × (List sv → List sc → (List sv → List sc → Prop) → Prop)) := [(1, cS none 1 F_X5_isPlate), (11, cS none 3 F_X5_within)]
theorem cok_X5_fills : CallOK cX5_fills 4 (some .int) RX5 3 ctb_X5_fills := CallOK_cons (site_same (rnS (pX5_fills_ok 1 _ rfl) ct_X5_isPlate kX5_isPlate lRX5_110 (by decide))) (CallOK_cons (site_same (rnS (pX5_fills_ok 11 _ rfl) ct_X5_within kX5_within lRX5_129 (by decide))) (CallOK_nil))
theorem ct_X5_fills : Ct yX5_fills cX5_fills 4 (some .int) 3 F_X5_fills := by
  intro l D σ cA sz as w K h
  obtain ⟨r1, r2, r3, r4, r5, hi, s, k, v, rfl, rfl, h⟩ := h
  refine metL (pr := lkB pX5_fills) (rk := 1) (ct := ctb_X5_fills) (fld := lkB flX5) (cst := lkB csX5) (cstL := lkB clX5) [] pX5_fills_ok kX5_fills.2.2.2.2.2.2.2 fdX5 cdX5 rto1 cok_X5_fills (Nat.le_of_ble_eq_true rfl) cut0 ?_ l D σ cA sz
  conv => whnf
  refine ⟨fun hc => ?_, fun hc1 => ?_⟩
  · conv => whnf
    have hn : ¬ fiC k v := fun q => bp_0.mp hc q.1
    rw [fiR, fiS, if_neg hn, if_neg hn] at h
    exact h
  conv => whnf
  refine ⟨fun hc2 => ?_, fun hc => ?_⟩
  rotate_left
  · conv => whnf
    have hn : ¬ fiC k v := fun q => bp_0.mp hc q.2
    rw [fiR, fiS, if_neg hn, if_neg hn] at h
    exact h
  have hn : fiC k v := ⟨bp_n hc1, bp_n hc2⟩
  have hv := plate_in hn.1
  rw [fiR, fiS, if_pos hn, if_pos hn] at h
  repeat' ((conv => whnf); (first | refine And.intro (by first | decide | with_reducible assumption) ?_ | with_reducible refine And.intro (fun hc => ?_) (fun hc => ?_) | with_reducible refine And.intro (fun hc => ?_) ?_ | fail))
  all_goals try (conv => whnf)
  exact h
def F_X6_count : Fn := fun as w K => ∃ (s : InnS) (q : Pm) (t : Tm) (what : Int32), as = [sR 0, sI what] ∧ w = modW s q t ∧ TZ t ∧ ∀ a b t', TZ t' → K (some (.inl (coF s what))) (modW (snS s a b) q t')
def ctb_X6_count : List (Nat × (List sv → List sc → (List sv → List sc → Prop) → Prop)) := [(70, cS (some 4) 1 F_X6_allPlates)]
theorem cok_X6_count : CallOK cX6_count 2 (some .int) RX6 2 ctb_X6_count := CallOK_cons (site_same (rnV (pX6_count_ok 70 _ rfl) ct_X6_allPlates kX6_allPlates lRX6_264 (by decide))) (CallOK_nil)
theorem ct_X6_count : Ct yX6_count cX6_count 2 (some .int) 2 F_X6_count := by
  intro l D σ cA sz as w K h
  obtain ⟨s, q, t, what, rfl, rfl, hT, h⟩ := h
  have h0 := h (iSn s) (iLn s) (tq0 t) hT
  clear h
  refine metL (pr := lkB pX6_count) (rk := 1) (ct := ctb_X6_count) (fld := lkB flX6) (cst := lkB csX6) (cstL := lkB clX6) [] pX6_count_ok kX6_count.2.2.2.2.2.2.2 fdX6 cdX6 rto1 cok_X6_count (Nat.le_of_ble_eq_true rfl) cut0 ?_ l D σ cA sz
  repeat' ((conv => whnf); (first | refine And.intro (by first | decide | with_reducible assumption) ?_ | with_reducible refine And.intro (fun hc => ?_) (fun hc => ?_) | with_reducible refine And.intro (fun hc => ?_) ?_ | fail))
  all_goals try (conv => whnf)
  all_goals first | trivial | (refine kI h0 ?_; clear h0; simp_all [coF, ofI0]; done) | skip
  · have a := out05 hc
    refine kI h0 ?_
    clear h0
    simp_all [coF]
  · refine ⟨s, q, tq0 t, rfl, rfl, ?_⟩
    conv => whnf
    refine kI h0 ?_
    clear h0
    simp_all [coF, ofI0]
def F_X5_count : Fn := fun as w K => ∃ (r1 r2 r3 r4 r5 : sv) (hi : Int32) (s : InnS) (what : Int32), as = [sR 0, sI what] ∧ w = x1W r1 r2 r3 r4 r5 hi s ∧ K (some (.inl (coF s what))) w
def ctb_X5_count : List (Nat × (List sv → List sc → (List sv → List sc → Prop) → Prop)) := [(84, cG [1, 2, 3, 4, 5, 6, 7] (some 0) 1 F_X0_platesInAll)]
theorem cok_X5_count : CallOK cX5_count 2 (some .int) RX5 2 ctb_X5_count := CallOK_cons (site_gen [1, 2, 3, 4, 5, 6, 7] (by decide) (rnV (pX5_count_ok 84 _ rfl) ct_X0_platesInAll kX0_platesInAll lRX5_202 (by decide))) (CallOK_nil)
theorem ct_X5_count : Ct yX5_count cX5_count 2 (some .int) 2 F_X5_count := by
  intro l D σ cA sz as w K h
  obtain ⟨r1, r2, r3, r4, r5, hi, s, what, rfl, rfl, h0⟩ := h
  refine metL (pr := lkB pX5_count) (rk := 1) (ct := ctb_X5_count) (fld := lkB flX5) (cst := lkB csX5) (cstL := lkB clX5) [] pX5_count_ok kX5_count.2.2.2.2.2.2.2 fdX5 cdX5 rto1 cok_X5_count (Nat.le_of_ble_eq_true rfl) cut0 ?_ l D σ cA sz
  repeat' ((conv => whnf); (first | refine And.intro (by first | decide | with_reducible assumption) ?_ | with_reducible refine And.intro (fun hc => ?_) (fun hc => ?_) | with_reducible refine And.intro (fun hc => ?_) ?_ | fail))
  all_goals try (conv => whnf)
  all_goals first | trivial | (refine kI h0 ?_; clear h0; simp_all [coF, ofI0]; done) | skip
  · have a := out05 hc
    refine kI h0 ?_
    clear h0
    simp_all [coF]
  · refine ⟨s, rfl, rfl, ?_⟩
    conv => whnf
    refine kI h0 ?_
    clear h0
    simp_all [coF, ofI0]
