/-! ===== keep, row, put, cost, comes, element of the reference ===== -/
def keQ (q : Pm) (d : Nat) (what k fi : Int32) : Pm := (upd (qH q) d what, upd (qK q) d (if what = 1 then k else 0), upd (qF q) d (if what = 1 then fi else 0), qS q, qM q, qR q, qI q, qB q)
theorem w01 {x : Int32} (h : 0 ≤ x ∧ x ≤ 1) : x = 0 ∨ x = 1 := by
  obtain ⟨j, hj, rfl⟩ := in_rng (n := 1) (by decide) h
  rcases (show j = 0 ∨ j = 1 by omega) with rfl | rfl
  · exact Or.inl rfl
  · exact Or.inr rfl
def F_X6_keep : Fn := fun as w K => ∃ (s : InnS) (q : Pm) (t : Tm) (d what k fi : Int32), as = [sR 0, sI d, sI what, sI k, sI fi] ∧ w = modW s q t ∧ TZ t ∧ (¬ keC d what k fi → ∀ t', TZ t' → K (some (.inl (-1))) (modW s q t')) ∧ (keC d what k fi → ∀ t', TZ t' → K (some (.inl 0)) (modW s (keQ q (ix d) what k fi) t'))
def ctb_X6_keep : List (Nat × (List sv → List sc → (List sv → List sc → Prop) → Prop)) := [(11, cS none 3 F_X6_in), (21, cS none 3 F_X6_in), (38, cS none 3 F_X6_in), (51, cS none 3 F_X6_in)]
theorem cok_X6_keep : CallOK cX6_keep 5 (some .int) RX6 2 ctb_X6_keep := CallOK_cons (site_same (rnS (pX6_keep_ok 11 _ rfl) ct_X6_in kX6_in lRX6_81 (by decide))) (CallOK_cons (site_same (rnS (pX6_keep_ok 21 _ rfl) ct_X6_in kX6_in lRX6_81 (by decide))) (CallOK_cons (site_same (rnS (pX6_keep_ok 38 _ rfl) ct_X6_in kX6_in lRX6_81 (by decide))) (CallOK_cons (site_same (rnS (pX6_keep_ok 51 _ rfl) ct_X6_in kX6_in lRX6_81 (by decide))) (CallOK_nil))))
theorem ct_X6_keep : Ct yX6_keep cX6_keep 5 (some .int) 2 F_X6_keep := by
  intro l D σ cA sz as w K h
  obtain ⟨s, q, t, d, what, k, fi, rfl, rfl, hT, hno, h⟩ := h
  have hno := fun z => hno z (tq0 t) hT
  have h := fun z => h z (tq0 t) hT
  refine metL (pr := lkB pX6_keep) (rk := 1) (ct := ctb_X6_keep) (fld := lkB flX6) (cst := lkB csX6) (cstL := lkB clX6) [] pX6_keep_ok kX6_keep.2.2.2.2.2.2.2 fdX6 cdX6 rto1 cok_X6_keep (Nat.le_of_ble_eq_true rfl) cut0 ?_ l D σ cA sz
  conv => whnf
  refine ⟨fun hc => ?_, fun hc1 => ?_⟩
  · have hc := bp_0.mp ((in_ii 0 d 7).symm.trans hc)
    conv => whnf
    exact hno (fun z => hc z.1)
  have hd := bp_n (fun z => hc1 ((in_ii 0 d 7).trans z))
  have hv := sh_in hd
  conv => whnf
  refine ⟨fun hc => ?_, fun hc2 => ?_⟩
  · have hc := bp_0.mp ((in_ii 0 what 1).symm.trans hc)
    conv => whnf
    exact hno (fun z => hc z.2.1)
  have hw := bp_n (fun z => hc2 ((in_ii 0 what 1).trans z))
  rcases w01 hw with h0 | h0
  · have h1 : ¬ what = 1 := by rw [h0]; decide
    have h := h ⟨hd, hw, fun z => absurd h0 z⟩
    rw [show keQ q (ix d) what k fi = (upd (qH q) (ix d) what, upd (qK q) (ix d) 0, upd (qF q) (ix d) 0, qS q, qM q, qR q, qI q, qB q) by unfold keQ; rw [if_neg h1, if_neg h1]] at h
    conv => whnf
    refine ⟨fun _ => ?_, fun z => absurd z h1⟩
    conv => whnf
    refine ⟨hv, ?_⟩
    conv => whnf
    refine ⟨fun _ => ?_, fun z => absurd z h1⟩
    conv => whnf
    refine ⟨hv, ?_⟩
    conv => whnf
    refine ⟨fun _ => ?_, fun z => absurd z h1⟩
    conv => whnf
    refine ⟨hv, ?_⟩
    conv => whnf
    exact h
  · have hn0 : ¬ what = 0 := by rw [h0]; decide
    conv => whnf
    refine ⟨fun z => absurd h0 z, fun _ => ?_⟩
    conv => whnf
    refine ⟨fun hc => ?_, fun hc3 => ?_⟩
    · have hc := bp_0.mp ((in_ii 0 k 7).symm.trans hc)
      conv => whnf
      exact hno (fun z => hc (z.2.2 hn0).1)
    conv => whnf
    refine ⟨fun hc4 => ?_, fun hc => ?_⟩
    rotate_left
    · have hc := bp_0.mp ((in_ii 0 fi 9).symm.trans hc)
      conv => whnf
      exact hno (fun z => hc (z.2.2 hn0).2)
    have h := h ⟨hd, hw, fun _ => ⟨bp_n (fun z => hc3 ((in_ii 0 k 7).trans z)), bp_n (fun z => hc4 ((in_ii 0 fi 9).trans z))⟩⟩
    rw [show keQ q (ix d) what k fi = (upd (qH q) (ix d) what, upd (qK q) (ix d) k, upd (qF q) (ix d) fi, qS q, qM q, qR q, qI q, qB q) by unfold keQ; rw [if_pos h0, if_pos h0]] at h
    conv => whnf
    refine ⟨hv, ?_⟩
    conv => whnf
    refine ⟨fun z => absurd h0 z, fun _ => ?_⟩
    conv => whnf
    refine ⟨hv, ?_⟩
    conv => whnf
    refine ⟨fun z => absurd h0 z, fun _ => ?_⟩
    conv => whnf
    refine ⟨hv, ?_⟩
    conv => whnf
    exact h
def zrL (r : Nat → Int64) (a : Nat) : Nat → (Nat → Int64)
  | 0 => r
  | k + 1 => vp_updL (zrL r a k) (a + k) 0
theorem zrL_in (r : Nat → Int64) (a : Nat) : ∀ k i, i < k → zrL r a k (a + i) = 0
  | 0, i, h => absurd h (Nat.not_lt_zero _)
  | k + 1, i, h => by
    show vp_updL _ _ _ _ = _
    by_cases e : i = k
    · rw [e, pk_uLs]
    · rw [pk_uLn (by omega)]
      exact zrL_in r a k i (by omega)
theorem zrL_out (r : Nat → Int64) (a : Nat) : ∀ k i, (i < a ∨ a + k ≤ i) → zrL r a k i = r i
  | 0, i, h => rfl
  | k + 1, i, h => by
    show vp_updL _ _ _ _ = _
    rw [pk_uLn (by omega)]
    exact zrL_out r a k i (by omega)
def roQ (q : Pm) (d : Nat) (s n : Int32) : Pm := (upd (qH q) d 2, qK q, qF q, upd (qS q) d s, upd (qM q) d n, zrL (qR q) (100 * d) 100, qI q, qB q)
def F_X6_row : Fn := fun as w K => ∃ (s : InnS) (q : Pm) (t : Tm) (d so n : Int32), as = [sR 0, sI d, sI so, sI n] ∧ w = modW s q t ∧ TZ t ∧ (¬ roC d so n → ∀ t', TZ t' → K (some (.inl (-1))) (modW s q t')) ∧ (roC d so n → n < 0 → ∀ t', TZ t' → K (some (.inl (-14))) (modW s q t')) ∧ (roC d so n → ¬ n < 0 → ∀ t', TZ t' → K (some (.inl 0)) (modW s (roQ q (ix d) so n) t'))
def ctb_X6_row : List (Nat × (List sv → List sc → (List sv → List sc → Prop) → Prop)) := [(11, cS none 3 F_X6_in), (23, cS none 3 F_X6_in)]
theorem cok_X6_row : CallOK cX6_row 5 (some .int) RX6 2 ctb_X6_row := CallOK_cons (site_same (rnS (pX6_row_ok 11 _ rfl) ct_X6_in kX6_in lRX6_81 (by decide))) (CallOK_cons (site_same (rnS (pX6_row_ok 23 _ rfl) ct_X6_in kX6_in lRX6_81 (by decide))) (CallOK_nil))
theorem ct_X6_row : Ct yX6_row cX6_row 5 (some .int) 2 F_X6_row := by
  intro l D σ cA sz as w K h
  obtain ⟨s, q, t, d, so, n, rfl, rfl, hT, hno, hneg, h⟩ := h
  have hno := fun z => hno z (tq0 t) hT
  have hneg := fun z y => hneg z y (tq0 t) hT
  have h := fun z y => h z y (tq0 t) hT
  refine metL (pr := lkB pX6_row) (rk := 1) (ct := ctb_X6_row) (fld := lkB flX6) (cst := lkB csX6) (cstL := lkB clX6) [(68, ([true, true, false, false, true], fun x lv st w => ∃ (j d' : Nat), j ≤ 100 ∧ x = 100 - j ∧ d' < 8 ∧ d = nI d' ∧ roC d so n ∧ ¬ n < 0 ∧ lv = [some (sR 0), some (sI (nI d')), none, none, some (sI (nI j))] ∧ st = [] ∧ w = modW s (upd (qH q) d' 2, qK q, qF q, upd (qS q) d' so, upd (qM q) d' n, zrL (qR q) (100 * d') j, qI q, qB q) (tq0 t)))] pX6_row_ok kX6_row.2.2.2.2.2.2.2 fdX6 cdX6 rto1 cok_X6_row (Nat.le_of_ble_eq_true rfl) ?_ ?_ l D σ cA sz
  · refine List.forall_mem_cons.mpr ⟨?_, cut0⟩
    rintro x lv st w ⟨j, d', hj, rfl, hd', ed, hC, hn, rfl, rfl, rfl⟩
    conv => whnf
    refine ⟨fun hc => ?_, fun hc => ?_⟩
    · have ej := lp_ge (M := 100) hj (by decide) hc
      have h := h hC hn
      rw [show roQ q (ix d) so n = (upd (qH q) d' 2, qK q, qF q, upd (qS q) d' so, upd (qM q) d' n, zrL (qR q) (100 * d') j, qI q, qB q) by unfold roQ; rw [ed, show ix (nI d') = d' from nI_clamp (by omega), ej]] at h
      conv => whnf
      exact h
    have hlt := lp_lt (M := 100) hj (by decide) hc
    obtain ⟨r1, r2, r3⟩ := row_ix hd' hlt
    conv => whnf
    rw [r1]
    refine ⟨r2, ?_⟩
    rw [r3]
    conv => whnf
    exact ⟨100 - (j + 1), by omega, j + 1, d', hlt, rfl, hd', ed, hC, hn, by rw [← nI_1]; rfl, rfl, rfl⟩
  · conv => whnf
    refine ⟨fun hc => ?_, fun hc1 => ?_⟩
    · have hc := bp_0.mp ((in_ii 0 d 7).symm.trans hc)
      conv => whnf
      exact hno (fun z => hc z.1)
    have hd := bp_n (fun z => hc1 ((in_ii 0 d 7).trans z))
    have hv := sh_in hd
    obtain ⟨d', hd', ed⟩ := sh_n hd
    conv => whnf
    refine ⟨fun hc => ?_, fun hc2 => ?_⟩
    · have hc := bp_0.mp ((in_ii 0 so 2).symm.trans hc)
      conv => whnf
      exact hno (fun z => hc z.2.1)
    have hs := bp_n (fun z => hc2 ((in_ii 0 so 2).trans z))
    conv => whnf
    refine ⟨fun hc3 => ?_, fun hc => ?_⟩
    rotate_left
    · conv => whnf
      exact hno (fun z => hc z.2.2)
    have hC : roC d so n := ⟨hd, hs, hc3⟩
    conv => whnf
    refine ⟨fun h0 => ?_, fun h0 => ?_⟩
    · conv => whnf
      refine ⟨hv, ?_⟩
      conv => whnf
      refine ⟨hv, ?_⟩
      conv => whnf
      refine ⟨hv, ?_⟩
      conv => whnf
      exact ⟨100, 0, d', by decide, rfl, hd', ed, hC, Int32.not_lt.mpr h0, by rw [ed]; rfl, rfl, by rw [ed, show (nI d').toNatClampNeg = d' from nI_clamp (by omega)]; rfl⟩
    · conv => whnf
      exact hneg hC (Int32.not_le.mp h0)
def F_X6_narrowed : Fn := fun as w K => match as with
  | [.inl v, .inl s] => K (some (.inr (.inl (narrowI s v).toInt64))) w
  | _ => False
def ctb_X6_narrowed : List (Nat × (List sv → List sc → (List sv → List sc → Prop) → Prop)) := []
theorem cok_X6_narrowed : CallOK cX6_narrowed 2 (some .long) RX6 1 ctb_X6_narrowed := CallOK_nil
theorem ct_X6_narrowed : Ct yX6_narrowed cX6_narrowed 2 (some .long) 1 F_X6_narrowed := by
  intro l D σ cA sz as w K h
  unfold F_X6_narrowed at h
  split at h
  · skip
    refine metL (pr := lkB pX6_narrowed) (rk := 3) (ct := ctb_X6_narrowed) (fld := lkB flX6) (cst := lkB csX6) (cstL := lkB clX6) [] pX6_narrowed_ok kX6_narrowed.2.2.2.2.2 fdX6 cdX6 rto3 cok_X6_narrowed (Nat.le_of_ble_eq_true rfl) cut0 ?_ l D σ cA sz
    repeat' ((conv => whnf); (first | refine And.intro (by first | decide | with_reducible assumption) ?_ | with_reducible refine And.intro (fun hc => ?_) (fun hc => ?_) | with_reducible refine And.intro (fun hc => ?_) ?_ | fail))
    all_goals try (conv => whnf)
    all_goals exact kL h (by clear h; simp_all [narrowI])
  · exact h.elim
def puQ (q : Pm) (d : Nat) (i v : Int32) : Pm := (qH q, qK q, qF q, qS q, qM q, vp_updL (qR q) (100 * d + ix i) (narrowI (qS q d) v).toInt64, qI q, qB q)
def F_X6_put : Fn := fun as w K => ∃ (s : InnS) (q : Pm) (t : Tm) (u : ShS) (d i v : Int32), as = [sR 0, sI d, sI i, sI v] ∧ w = modW s q t ∧ TZ t ∧ (0 ≤ d ∧ d ≤ 7 → SR q (ix d) u ∧ SH u) ∧ (¬ reF u d 2 = 0 → ∀ t', TZ t' → K (some (.inl (reF u d 2))) (modW s q t')) ∧ (reF u d 2 = 0 → ¬ (0 ≤ i ∧ i ≤ uM u - 1) → ∀ t', TZ t' → K (some (.inl (-13))) (modW s q t')) ∧ (reF u d 2 = 0 → (0 ≤ i ∧ i ≤ uM u - 1) → ∀ t', TZ t' → K (some (.inl 0)) (modW s (puQ q (ix d) i v) t'))
def ctb_X6_put : List (Nat × (List sv → List sc → (List sv → List sc → Prop) → Prop)) := [(7, cS (some 4) 2 F_X6_wrongRow), (32, cS none 3 F_X6_in), (58, cS none 2 F_X6_narrowed)]
theorem cok_X6_put : CallOK cX6_put 5 (some .int) RX6 3 ctb_X6_put := CallOK_cons (site_same (rnV (pX6_put_ok 7 _ rfl) ct_X6_wrongRow kX6_wrongRow lRX6_184 (by decide))) (CallOK_cons (site_same (rnS (pX6_put_ok 32 _ rfl) ct_X6_in kX6_in lRX6_81 (by decide))) (CallOK_cons (site_same (rnS (pX6_put_ok 58 _ rfl) ct_X6_narrowed kX6_narrowed lRX6_314 (by decide))) (CallOK_nil)))
theorem ct_X6_put : Ct yX6_put cX6_put 5 (some .int) 3 F_X6_put := by
  intro l D σ cA sz as w K h
  obtain ⟨s, q, t, u, d, i, v, rfl, rfl, hT, hu, hno, hn2, h⟩ := h
  have hno := fun z => hno z (tq0 t) hT
  have hn2 := fun z y => hn2 z y (tq0 t) hT
  have h := fun z y => h z y (tq0 t) hT
  refine metL (pr := lkB pX6_put) (rk := 1) (ct := ctb_X6_put) (fld := lkB flX6) (cst := lkB csX6) (cstL := lkB clX6) [] pX6_put_ok kX6_put.2.2.2.2.2.2.2 fdX6 cdX6 rto1 cok_X6_put (Nat.le_of_ble_eq_true rfl) cut0 ?_ l D σ cA sz
  conv => whnf
  refine ⟨s, q, tq0 t, u, d, rfl, rfl, fun z => (hu z).1, ?_⟩
  conv => whnf
  refine ⟨fun hc => ?_, fun hc => ?_⟩
  rotate_left
  · conv => whnf
    exact hno (re_lt hc)
  have hc := re_ge hc
  obtain ⟨hd, h2⟩ := re_0 hc
  obtain ⟨d', hd', ed⟩ := sh_n hd
  obtain ⟨z1, z2, z3⟩ := (hu hd).1.2.2 h2
  have ed' : d.toNatClampNeg = d' := by rw [ed]; exact nI_clamp (by omega)
  rw [show ix d = d' from ed'] at z1 z2 z3
  conv => whnf
  refine ⟨sh_in hd, ?_⟩
  rw [ed', z2]
  conv => whnf
  refine ⟨fun h1 => ?_, fun h1 => ?_⟩
  · have h1 := bp_n (fun z => h1 ((in_ii 0 i (uM u - 1)).trans z))
    have h := h hc h1
    obtain ⟨j, n, hj, hn, ei, -⟩ := cell_n (hu hd).2 h2 h1
    obtain ⟨r1, r2, r3⟩ := row_ix hd' (show j < 100 by omega)
    rw [show puQ q (ix d) i v = (qH q, qK q, qF q, qS q, qM q, vp_updL (qR q) (100 * d' + j) (narrowI (qS q d') v).toInt64, qI q, qB q) by unfold puQ; rw [show ix d = d' from ed', ei, show ix (nI j) = j from nI_clamp (by omega)]] at h
    conv => whnf
    refine ⟨sh_in hd, ?_⟩
    rw [ed']
    conv => whnf
    rw [ed, ei, r1]
    refine ⟨r2, ?_⟩
    rw [r3]
    conv => whnf
    exact h
  · have h1 := bp_0.mp ((in_ii 0 i (uM u - 1)).symm.trans h1)
    conv => whnf
    exact hn2 hc h1
def F_X6_costOf : Fn := fun as w K => match as with
  | [.inl k, .inl f] => K (some (.inl (costK k f))) w
  | _ => False
def ctb_X6_costOf : List (Nat × (List sv → List sc → (List sv → List sc → Prop) → Prop)) := [(71, cS none 2 F_X6_held)]
theorem cok_X6_costOf : CallOK cX6_costOf 2 (some .int) RX6 2 ctb_X6_costOf := CallOK_cons (site_same (rnS (pX6_costOf_ok 71 _ rfl) ct_X6_held kX6_held lRX6_88 (by decide))) (CallOK_nil)
theorem ct_X6_costOf : Ct yX6_costOf cX6_costOf 2 (some .int) 2 F_X6_costOf := by
  intro l D σ cA sz as w K h
  unfold F_X6_costOf at h
  split at h
  · rename_i k f
    refine metL (pr := lkB pX6_costOf) (rk := 1) (ct := ctb_X6_costOf) (fld := lkB flX6) (cst := lkB csX6) (cstL := lkB clX6) [] pX6_costOf_ok kX6_costOf.2.2.2.2.2 fdX6 cdX6 rto1 cok_X6_costOf (Nat.le_of_ble_eq_true rfl) cut0 ?_ l D σ cA sz
    repeat' ((conv => whnf); (first | refine And.intro (by first | decide | with_reducible assumption) ?_ | with_reducible refine And.intro (fun hc => ?_) (fun hc => ?_) | with_reducible refine And.intro (fun hc => ?_) ?_ | fail))
    all_goals try (conv => whnf)
    all_goals first | trivial | (refine kI h ?_; clear h; simp_all [costK, ofI0]; done) | (have a := out07 (k := k) (by assumption); refine kI h ?_; clear h; simp_all [costK]; done)
  · exact h.elim
def F_X6_cost : Fn := fun as w K => ∃ (s : InnS) (q : Pm) (t : Tm) (u : ShS) (d : Int32), as = [sR 0, sI d] ∧ w = modW s q t ∧ TZ t ∧ (0 ≤ d ∧ d ≤ 7 → SR q (ix d) u ∧ SH u) ∧ ∀ t', TZ t' → K (some (.inl (coK u d))) (modW s q t')
def ctb_X6_cost : List (Nat × (List sv → List sc → (List sv → List sc → Prop) → Prop)) := [(7, cS (some 4) 2 F_X6_wrongKept), (15, cS (some 4) 2 F_X6_wrongKept), (33, cS none 2 F_X6_costOf)]
theorem cok_X6_cost : CallOK cX6_cost 2 (some .int) RX6 3 ctb_X6_cost := CallOK_cons (site_same (rnV (pX6_cost_ok 7 _ rfl) ct_X6_wrongKept kX6_wrongKept lRX6_223 (by decide))) (CallOK_cons (site_same (rnV (pX6_cost_ok 15 _ rfl) ct_X6_wrongKept kX6_wrongKept lRX6_223 (by decide))) (CallOK_cons (site_same (rnS (pX6_cost_ok 33 _ rfl) ct_X6_costOf kX6_costOf lRX6_318 (by decide))) (CallOK_nil)))
theorem ct_X6_cost : Ct yX6_cost cX6_cost 2 (some .int) 3 F_X6_cost := by
  intro l D σ cA sz as w K h
  obtain ⟨s, q, t, u, d, rfl, rfl, hT, hu, h⟩ := h
  have h := h (tq0 t) hT
  refine metL (pr := lkB pX6_cost) (rk := 1) (ct := ctb_X6_cost) (fld := lkB flX6) (cst := lkB csX6) (cstL := lkB clX6) [] pX6_cost_ok kX6_cost.2.2.2.2.2.2.2 fdX6 cdX6 rto1 cok_X6_cost (Nat.le_of_ble_eq_true rfl) cut0 ?_ l D σ cA sz
  conv => whnf
  refine ⟨s, q, tq0 t, u, d, rfl, rfl, hu, ?_⟩
  conv => whnf
  refine ⟨fun hc => ?_, fun hc => ?_⟩
  · have hc := re_ge hc
    obtain ⟨hd, h1⟩ := re_0 hc
    obtain ⟨z1, z2⟩ := (hu hd).1.2.1 h1
    conv => whnf
    refine ⟨sh_in hd, ?_⟩
    conv => whnf
    refine ⟨sh_in hd, ?_⟩
    conv => whnf
    exact kI h (by unfold coK; rw [if_pos hc, ← z1, ← z2])
  · conv => whnf
    refine ⟨s, q, tq0 t, u, d, rfl, rfl, hu, ?_⟩
    conv => whnf
    exact kI h (by unfold coK; rw [if_neg (re_lt hc)])
def F_X6_guestComes : Fn := fun as w K => ∃ (s : InnS) (q : Pm) (t : Tm) (k f wi : Int32), as = [sR 0, sI k, sI f, sI wi] ∧ w = modW s q t ∧ rng 8 (iG s) ∧ (¬ (k < 8 ∧ iG s < 7) → K (some (.inl 0)) w) ∧ (k < 8 ∧ iG s < 7 → K (some (.inl 1)) (modW (adS s k f wi) q t))
def ctb_X6_guestComes : List (Nat × (List sv → List sc → (List sv → List sc → Prop) → Prop)) := []
theorem cok_X6_guestComes : CallOK cX6_guestComes 5 (some .boolean) RX6 1 ctb_X6_guestComes := CallOK_nil
theorem ct_X6_guestComes : Ct yX6_guestComes cX6_guestComes 5 (some .boolean) 1 F_X6_guestComes := by
  intro l D σ cA sz as w K h
  obtain ⟨s, q, t, k, f, wi, rfl, rfl, hG, hno, h⟩ := h
  refine metL (pr := lkB pX6_guestComes) (rk := 2) (ct := ctb_X6_guestComes) (fld := lkB flX6) (cst := lkB csX6) (cstL := lkB clX6) [] pX6_guestComes_ok kX6_guestComes.2.2.2.2.2.2.2 fdX6 cdX6 rto2 cok_X6_guestComes (Nat.le_of_ble_eq_true rfl) cut0 ?_ l D σ cA sz
  conv => whnf
  refine ⟨fun h1 => ?_, fun h1 => ?_⟩
  · skip
    repeat' ((conv => whnf); (first | ((with_reducible refine And.intro (fun z => ?_) (fun z => ?_)) <;> (try (first | exact absurd z (by first | assumption | decide) | exact absurd (by first | assumption | decide) z))) | fail))
    all_goals (conv => whnf)
    exact ⟨Or.inl rfl, hno (fun z => absurd z.1 (Int32.not_lt.mpr h1))⟩
  conv => whnf
  refine ⟨fun h2 => ?_, fun h2 => ?_⟩
  · skip
    repeat' ((conv => whnf); (first | ((with_reducible refine And.intro (fun z => ?_) (fun z => ?_)) <;> (try (first | exact absurd z (by first | assumption | decide) | exact absurd (by first | assumption | decide) z))) | fail))
    all_goals (conv => whnf)
    exact ⟨Or.inl rfl, hno (fun z => absurd z.2 (Int32.not_lt.mpr h2))⟩
  have h7 := Int32.not_le.mp h2
  have hv : vp_in (iG s) 7 := by
    obtain ⟨G, hG7, hG⟩ := hG
    rw [hG] at h7 ⊢
    exact vp_in_nI ((nI_ltI (by omega) (by decide)).mp (show nI G < nI 7 from h7)) (by decide)
  have h := h ⟨Int32.not_le.mp h1, h7⟩
  conv => whnf
  refine ⟨fun z => absurd z (by decide), fun _ => ?_⟩
  repeat' ((conv => whnf); (first | refine And.intro (by first | decide | with_reducible assumption) ?_ | with_reducible refine And.intro (fun hc => ?_) (fun hc => ?_) | with_reducible refine And.intro (fun hc => ?_) ?_ | fail))
  all_goals try (conv => whnf)
  exact h
theorem ad_iG (s : InnS) (k f w : Int32) : iG (adS s k f w) = iG s + 1 := rfl
theorem sub1 (x : Int32) : x + 1 - 1 = x := by
  rw [← Int32.toBitVec_inj]
  simp
def F_X6_comes : Fn := fun as w K => ∃ (s : InnS) (q : Pm) (t : Tm) (u : ShS) (d wi : Int32), as = [sR 0, sI d, sI wi] ∧ w = modW s q t ∧ TZ t ∧ rng 8 (iG s) ∧ (0 ≤ d ∧ d ≤ 7 → SR q (ix d) u ∧ SH u) ∧ (¬ cmC s u d wi → ∀ t', TZ t' → K (some (.inl (cmR s u d wi))) (modW s q t')) ∧ (cmC s u d wi → ∀ t', TZ t' → K (some (.inl (cmR s u d wi))) (modW (adS s (uK u) (uF u) wi) q t'))
def ctb_X6_comes : List (Nat × (List sv → List sc → (List sv → List sc → Prop) → Prop)) := [(11, cS none 3 F_X6_in), (18, cS none 1 F_X6_isPlate), (28, cS (some 4) 2 F_X6_wrongKept), (45, cS (some 4) 2 F_X6_wrongKept), (53, cS (some 4) 2 F_X6_wrongKept), (76, cS (some 4) 4 F_X6_guestComes)]
theorem cok_X6_comes : CallOK cX6_comes 3 (some .int) RX6 3 ctb_X6_comes := CallOK_cons (site_same (rnS (pX6_comes_ok 11 _ rfl) ct_X6_in kX6_in lRX6_81 (by decide))) (CallOK_cons (site_same (rnS (pX6_comes_ok 18 _ rfl) ct_X6_isPlate kX6_isPlate lRX6_220 (by decide))) (CallOK_cons (site_same (rnV (pX6_comes_ok 28 _ rfl) ct_X6_wrongKept kX6_wrongKept lRX6_223 (by decide))) (CallOK_cons (site_same (rnV (pX6_comes_ok 45 _ rfl) ct_X6_wrongKept kX6_wrongKept lRX6_223 (by decide))) (CallOK_cons (site_same (rnV (pX6_comes_ok 53 _ rfl) ct_X6_wrongKept kX6_wrongKept lRX6_223 (by decide))) (CallOK_cons (site_same (rnV (pX6_comes_ok 76 _ rfl) ct_X6_guestComes kX6_guestComes lRX6_174 (by decide))) (CallOK_nil))))))
theorem ct_X6_comes : Ct yX6_comes cX6_comes 3 (some .int) 3 F_X6_comes := by
  intro l D σ cA sz as w K h
  obtain ⟨s, q, t, u, d, wi, rfl, rfl, hT, hG, hu, hno, h⟩ := h
  have hno := fun z => hno z (tq0 t) hT
  have h := fun z => h z (tq0 t) hT
  have eG : iG s = 7 ∨ iG s < 7 := by
    obtain ⟨G, hG8, eG⟩ := hG
    rw [eG]
    rcases (show G = 7 ∨ G < 7 by omega) with rfl | h7
    · exact Or.inl rfl
    · exact Or.inr (show nI G < nI 7 from nI_lt h7 (by decide))
  refine metL (pr := lkB pX6_comes) (rk := 1) (ct := ctb_X6_comes) (fld := lkB flX6) (cst := lkB csX6) (cstL := lkB clX6) [] pX6_comes_ok kX6_comes.2.2.2.2.2.2.2 fdX6 cdX6 rto1 cok_X6_comes (Nat.le_of_ble_eq_true rfl) cut0 ?_ l D σ cA sz
  conv => whnf
  refine ⟨fun hc => ?_, fun hc1 => ?_⟩
  · have hc := bp_0.mp ((in_ii 0 d 7).symm.trans hc)
    have e1 : reF u d 1 = -1 := by unfold reF; rw [if_neg hc]
    have e2 : ¬ reF u d 1 = 0 := by rw [e1]; decide
    conv => whnf
    refine kI (hno (fun z => e2 z.2.1)) ?_
    unfold cmR
    by_cases hw : 0 ≤ wi ∧ wi ≤ 9
    · rw [if_pos hw, if_neg e2, e1]
    · rw [if_neg hw]
  have hd := bp_n (fun z => hc1 ((in_ii 0 d 7).trans z))
  conv => whnf
  refine ⟨fun hc2 => ?_, fun hc => ?_⟩
  rotate_left
  · have hc := bp_0.mp hc
    conv => whnf
    exact kI (hno (fun z => hc z.1)) (by unfold cmR; rw [if_neg hc])
  have hw := bp_n hc2
  conv => whnf
  refine ⟨s, q, tq0 t, u, d, rfl, rfl, hu, ?_⟩
  conv => whnf
  refine ⟨fun hc => ?_, fun hc => ?_⟩
  · have hc' : ¬ reF u d 1 = 0 := fun z => by rw [z] at hc; exact absurd hc (by decide)
    conv => whnf
    refine ⟨s, q, tq0 t, u, d, rfl, rfl, hu, ?_⟩
    conv => whnf
    refine ⟨fun z => absurd hc (Int32.not_lt.mpr z), fun _ => ?_⟩
    conv => whnf
    refine ⟨s, q, tq0 t, u, d, rfl, rfl, hu, ?_⟩
    conv => whnf
    exact kI (hno (fun z => hc' z.2.1)) (by unfold cmR; rw [if_pos hw, if_neg hc'])
  have hc0 := re_ge (Int32.not_lt.mp hc)
  obtain ⟨-, h1⟩ := re_0 hc0
  obtain ⟨z1, z2⟩ := (hu hd).1.2.1 h1
  obtain ⟨d', hd', ed⟩ := sh_n hd
  conv => whnf
  refine ⟨fun h7 => ?_, fun h7 => ?_⟩
  · have h7 := eG.resolve_left h7
    have h := h ⟨hw, hc0, h7⟩
    obtain ⟨⟨kk, hk8, ekk⟩, -⟩ := (hu hd).2.2.1 h1
    conv => whnf
    refine ⟨sh_in hd, ?_⟩
    conv => whnf
    refine ⟨sh_in hd, ?_⟩
    rw [show qK q d.toNatClampNeg = uK u from z1, show qF q d.toNatClampNeg = uF u from z2]
    conv => whnf
    refine ⟨s, q, tq0 t, uK u, uF u, wi, rfl, rfl, hG, fun z => absurd ⟨by rw [ekk]; exact (show nI kk < nI 8 from nI_lt hk8 (by decide)), h7⟩ z, fun _ => ?_⟩
    conv => whnf
    exact kI h (by unfold cmR; rw [if_pos hw, if_pos hc0, if_neg (Int32.not_le.mpr h7)]; exact (sub1 _).symm)
  · have h7' : 7 ≤ iG s := by rw [show iG s = 7 from h7]; decide
    conv => whnf
    refine ⟨s, q, tq0 t, u, d, rfl, rfl, hu, ?_⟩
    conv => whnf
    refine ⟨fun _ => ?_, fun z => absurd (Int32.not_lt.mp hc) z⟩
    conv => whnf
    exact kI (hno (fun z => absurd z.2.2 (Int32.not_lt.mpr h7'))) (by unfold cmR; rw [if_pos hw, if_pos hc0, if_pos h7'])
