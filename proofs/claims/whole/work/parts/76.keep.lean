/-! ===== keep, row, put, cost, comes of the class ===== -/
def F_X3_holdNothing : Fn := fun as w K => ∃ (u : ShS), as = [sR 0] ∧ w = shW u ∧ K none (shW (0, uK u, uF u, uS u, uM u, uC u))
def ctb_X3_holdNothing : List (Nat × (List sv → List sc → (List sv → List sc → Prop) → Prop)) := []
theorem cok_X3_holdNothing : CallOK cX3_holdNothing 1 none RX3 1 ctb_X3_holdNothing := CallOK_nil
theorem ct_X3_holdNothing : Ct yX3_holdNothing cX3_holdNothing 1 none 1 F_X3_holdNothing := by
  intro l D σ cA sz as w K h
  obtain ⟨u, rfl, rfl, h⟩ := h
  refine metL (pr := lkB pX3_holdNothing) (rk := 0) (ct := ctb_X3_holdNothing) (fld := lkB flX3) (cst := lkB csX3) (cstL := lkB clX3) [] pX3_holdNothing_ok kX3_holdNothing.2.2.2.2.2.2.2 fdX3 cdX3 rto0 cok_X3_holdNothing (Nat.le_of_ble_eq_true rfl) cut0 ?_ l D σ cA sz
  conv => whnf
  exact h
def F_X3_holdKind : Fn := fun as w K => ∃ (u : ShS) (k f : Int32), as = [sR 0, sI k, sI f] ∧ w = shW u ∧ K none (shW (1, k, f, uS u, uM u, uC u))
def ctb_X3_holdKind : List (Nat × (List sv → List sc → (List sv → List sc → Prop) → Prop)) := []
theorem cok_X3_holdKind : CallOK cX3_holdKind 3 none RX3 1 ctb_X3_holdKind := CallOK_nil
theorem ct_X3_holdKind : Ct yX3_holdKind cX3_holdKind 3 none 1 F_X3_holdKind := by
  intro l D σ cA sz as w K h
  obtain ⟨u, k, f, rfl, rfl, h⟩ := h
  refine metL (pr := lkB pX3_holdKind) (rk := 0) (ct := ctb_X3_holdKind) (fld := lkB flX3) (cst := lkB csX3) (cstL := lkB clX3) [] pX3_holdKind_ok kX3_holdKind.2.2.2.2.2.2.2 fdX3 cdX3 rto0 cok_X3_holdKind (Nat.le_of_ble_eq_true rfl) cut0 ?_ l D σ cA sz
  conv => whnf
  exact h
def zrF (c : PA) : Nat → PA
  | 0 => c
  | k + 1 => upd (zrF c k) k 0
theorem zr_lo (c : PA) : ∀ k i, i < k → zrF c k i = 0
  | 0, i, h => absurd h (Nat.not_lt_zero _)
  | k + 1, i, h => by
    show upd _ _ _ _ = _
    by_cases e : i = k
    · rw [e, pk_us]
    · rw [pk_un e]
      exact zr_lo c k i (by omega)
def F_X3_holdRow : Fn := fun as w K => ∃ (u : ShS) (s : Int32) (n : Nat), as = [sR 0, sI s, sI (nI n)] ∧ w = shW u ∧ n ≤ 100 ∧ K none (shW (2, uK u, uF u, s, nI n, zrF (uC u) n))
def ctb_X3_holdRow : List (Nat × (List sv → List sc → (List sv → List sc → Prop) → Prop)) := []
theorem cok_X3_holdRow : CallOK cX3_holdRow 4 none RX3 1 ctb_X3_holdRow := CallOK_nil
theorem ct_X3_holdRow : Ct yX3_holdRow cX3_holdRow 4 none 1 F_X3_holdRow := by
  intro l D σ cA sz as w K h
  obtain ⟨u, s, n, rfl, rfl, hn, h⟩ := h
  refine metL (pr := lkB pX3_holdRow) (rk := 0) (ct := ctb_X3_holdRow) (fld := lkB flX3) (cst := lkB csX3) (cstL := lkB clX3) [(17, ([true, false, true, true], fun x lv st w => ∃ j, j ≤ n ∧ x = n - j ∧ lv = [some (sR 0), none, some (sI (nI n)), some (sI (nI j))] ∧ st = [] ∧ w = shW (2, uK u, uF u, s, nI n, zrF (uC u) j)))] pX3_holdRow_ok kX3_holdRow.2.2.2.2.2.2.2 fdX3 cdX3 rto0 cok_X3_holdRow (Nat.le_of_ble_eq_true rfl) ?_ ?_ l D σ cA sz
  · refine List.forall_mem_cons.mpr ⟨?_, cut0⟩
    rintro x lv st w ⟨j, hj, rfl, rfl, rfl, rfl⟩
    conv => whnf
    refine ⟨fun hc => ?_, fun hc => ?_⟩
    · obtain rfl := lp_ge hj (by omega) hc
      conv => whnf
      exact h
    have hlt := lp_lt hj (by omega) hc
    conv => whnf
    refine ⟨fun h2 => ?_, fun h2 => ?_⟩
    · exact absurd (show nI 100 ≤ nI j from h2) (nI_ge (by omega) (by omega))
    conv => whnf
    refine ⟨vp_in_nI (by omega) (by decide), ?_⟩
    rw [show (nI j).toNatClampNeg = j from nI_clamp (by omega)]
    conv => whnf
    exact ⟨n - (j + 1), by omega, j + 1, hlt, rfl, by rw [← nI_1]; rfl, rfl, rfl⟩
  · conv => whnf
    exact ⟨n, 0, Nat.zero_le _, rfl, rfl, rfl, rfl⟩
def keC (d what k fi : Int32) : Prop := (0 ≤ d ∧ d ≤ 7) ∧ (0 ≤ what ∧ what ≤ 1) ∧ (¬ what = 0 → (0 ≤ k ∧ k ≤ 7) ∧ (0 ≤ fi ∧ fi ≤ 9))
def keU (u : ShS) (what k fi : Int32) : ShS := if what = 0 then (0, uK u, uF u, uS u, uM u, uC u) else (1, k, fi, uS u, uM u, uC u)
def F_X5_keep : Fn := fun as w K => ∃ (r2 r4 r5 : sv) (hi : Int32) (s m : InnS) (f : Nat → Option Nat) (u : ShS) (d what k fi : Int32), as = [sR 0, sI d, sI what, sI k, sI fi] ∧ w = xS r2 r4 r5 hi s m f u ∧ (0 ≤ d ∧ d ≤ 7 → f (ix d) = some 16) ∧ (¬ keC d what k fi → K (some (.inl (-1))) w) ∧ (keC d what k fi → K (some (.inl 0)) (xS r2 r4 r5 hi s m f (keU u what k fi)))
def ctb_X5_keep : List (Nat × (List sv → List sc → (List sv → List sc → Prop) → Prop)) := [(1, cS none 1 F_X5_isShelf), (10, cS none 3 F_X5_within), (28, cG [16, 17] (some 2) 1 F_X3_holdNothing), (34, cS none 1 F_X1_isKind), (42, cS none 1 F_X5_isDigit), (59, cG [16, 17] (some 2) 3 F_X3_holdKind)]
theorem cok_X5_keep : CallOK cX5_keep 5 (some .int) RX5 3 ctb_X5_keep := CallOK_cons (site_same (rnS (pX5_keep_ok 1 _ rfl) ct_X5_isShelf kX5_isShelf lRX5_246 (by decide))) (CallOK_cons (site_same (rnS (pX5_keep_ok 10 _ rfl) ct_X5_within kX5_within lRX5_129 (by decide))) (CallOK_cons (site_gen [16, 17] (by decide) (rnV (pX5_keep_ok 28 _ rfl) ct_X3_holdNothing kX3_holdNothing lRX5_249 (by decide))) (CallOK_cons (site_same (rnS (pX5_keep_ok 34 _ rfl) ct_X1_isKind kX1_isKind lRX5_252 (by decide))) (CallOK_cons (site_same (rnS (pX5_keep_ok 42 _ rfl) ct_X5_isDigit kX5_isDigit lRX5_255 (by decide))) (CallOK_cons (site_gen [16, 17] (by decide) (rnV (pX5_keep_ok 59 _ rfl) ct_X3_holdKind kX3_holdKind lRX5_258 (by decide))) (CallOK_nil))))))
theorem ct_X5_keep : Ct yX5_keep cX5_keep 5 (some .int) 3 F_X5_keep := by
  intro l D σ cA sz as w K h
  obtain ⟨r2, r4, r5, hi, s, m, f, u, d, what, k, fi, rfl, rfl, hf, hno, h⟩ := h
  refine metL (pr := lkB pX5_keep) (rk := 1) (ct := ctb_X5_keep) (fld := lkB flX5) (cst := lkB csX5) (cstL := lkB clX5) [] pX5_keep_ok kX5_keep.2.2.2.2.2.2.2 fdX5 cdX5 rto1 cok_X5_keep (Nat.le_of_ble_eq_true rfl) cut0 ?_ l D σ cA sz
  conv => whnf
  refine ⟨fun hc => ?_, fun hc1 => ?_⟩
  · conv => whnf
    exact hno (fun z => bp_0.mp hc z.1)
  conv => whnf
  refine ⟨fun hc2 => ?_, fun hc => ?_⟩
  rotate_left
  · conv => whnf
    exact hno (fun z => bp_0.mp hc z.2.1)
  have hd := bp_n hc1
  have hw := bp_n hc2
  have hf := hf hd
  have hv := sh_in hd
  conv => whnf
  refine ⟨fun h0 => ?_, fun h0 => ?_⟩
  · conv => whnf
    refine ⟨fun hc => ?_, fun hc3 => ?_⟩
    · conv => whnf
      exact hno (fun z => bp_0.mp hc (z.2.2 h0).1)
    conv => whnf
    refine ⟨fun hc4 => ?_, fun hc => ?_⟩
    rotate_left
    · conv => whnf
      exact hno (fun z => bp_0.mp hc (z.2.2 h0).2)
    have h := h ⟨hd, hw, fun _ => ⟨bp_n hc3, bp_n hc4⟩⟩
    rw [show keU u what k fi = (1, k, fi, uS u, uM u, uC u) from if_neg h0] at h
    conv => whnf
    refine ⟨hv, ?_⟩
    rw [hf]
    conv => whnf
    refine ⟨u, k, fi, rfl, rfl, ?_⟩
    conv => whnf
    exact h
  · have h := h ⟨hd, hw, fun z => absurd h0 z⟩
    rw [show keU u what k fi = (0, uK u, uF u, uS u, uM u, uC u) from if_pos h0] at h
    conv => whnf
    refine ⟨hv, ?_⟩
    rw [hf]
    conv => whnf
    refine ⟨u, rfl, rfl, ?_⟩
    conv => whnf
    exact h
def roC (d s n : Int32) : Prop := (0 ≤ d ∧ d ≤ 7) ∧ (0 ≤ s ∧ s ≤ 2) ∧ n ≤ 100
def roU (u : ShS) (s n : Int32) : ShS := (2, uK u, uF u, s, n, zrF (uC u) (ix n))
def F_X5_row : Fn := fun as w K => ∃ (r2 r4 r5 : sv) (hi : Int32) (s m : InnS) (f : Nat → Option Nat) (u : ShS) (d so n : Int32), as = [sR 0, sI d, sI so, sI n] ∧ w = xS r2 r4 r5 hi s m f u ∧ (0 ≤ d ∧ d ≤ 7 → f (ix d) = some 16) ∧ (¬ roC d so n → K (some (.inl (-1))) w) ∧ (roC d so n → n < 0 → K (some (.inl (-14))) w) ∧ (roC d so n → ¬ n < 0 → K (some (.inl 0)) (xS r2 r4 r5 hi s m f (roU u so n)))
def ctb_X5_row : List (Nat × (List sv → List sc → (List sv → List sc → Prop) → Prop)) := [(1, cS none 1 F_X5_isShelf), (8, cS none 1 F_X3_isSort), (37, cG [16, 17] (some 2) 3 F_X3_holdRow)]
theorem cok_X5_row : CallOK cX5_row 4 (some .int) RX5 3 ctb_X5_row := CallOK_cons (site_same (rnS (pX5_row_ok 1 _ rfl) ct_X5_isShelf kX5_isShelf lRX5_246 (by decide))) (CallOK_cons (site_same (rnS (pX5_row_ok 8 _ rfl) ct_X3_isSort kX3_isSort lRX5_261 (by decide))) (CallOK_cons (site_gen [16, 17] (by decide) (rnV (pX5_row_ok 37 _ rfl) ct_X3_holdRow kX3_holdRow lRX5_264 (by decide))) (CallOK_nil)))
theorem ct_X5_row : Ct yX5_row cX5_row 4 (some .int) 3 F_X5_row := by
  intro l D σ cA sz as w K h
  obtain ⟨r2, r4, r5, hi, s, m, f, u, d, so, n, rfl, rfl, hf, hno, hneg, h⟩ := h
  refine metL (pr := lkB pX5_row) (rk := 1) (ct := ctb_X5_row) (fld := lkB flX5) (cst := lkB csX5) (cstL := lkB clX5) [] pX5_row_ok kX5_row.2.2.2.2.2.2.2 fdX5 cdX5 rto1 cok_X5_row (Nat.le_of_ble_eq_true rfl) cut0 ?_ l D σ cA sz
  conv => whnf
  refine ⟨fun hc => ?_, fun hc1 => ?_⟩
  · conv => whnf
    exact hno (fun z => bp_0.mp hc z.1)
  conv => whnf
  refine ⟨fun hc => ?_, fun hc2 => ?_⟩
  · conv => whnf
    exact hno (fun z => bp_0.mp hc z.2.1)
  conv => whnf
  refine ⟨fun hc3 => ?_, fun hc => ?_⟩
  rotate_left
  · conv => whnf
    exact hno (fun z => hc z.2.2)
  have hC : roC d so n := ⟨bp_n hc1, bp_n hc2, hc3⟩
  have hf := hf hC.1
  have hv := sh_in hC.1
  conv => whnf
  refine ⟨fun h0 => ?_, fun h0 => ?_⟩
  · have h := h hC (Int32.not_lt.mpr h0)
    obtain ⟨n', hn', en⟩ := in_rng (n := 100) (by decide) ⟨h0, hc3⟩
    rw [show roU u so n = (2, uK u, uF u, so, nI n', zrF (uC u) n') by unfold roU; rw [en, show ix (nI n') = n' from nI_clamp (by omega)]] at h
    conv => whnf
    refine ⟨hv, ?_⟩
    rw [hf]
    conv => whnf
    refine ⟨u, so, n', by rw [en]; rfl, rfl, hn', ?_⟩
    conv => whnf
    exact h
  · conv => whnf
    exact hneg hC (Int32.not_le.mp h0)
theorem cell_n {u : ShS} {i : Int32} (hu : SH u) (h2 : uO u = 2) (h : 0 ≤ i ∧ i ≤ uM u - 1) : ∃ j n, j < n ∧ n ≤ 100 ∧ i = nI j ∧ uM u = nI n := by
  obtain ⟨n, hn, eM, -⟩ := sz_n hu h2
  rw [eM] at h
  cases n with
  | zero => exact absurd (Int32.le_trans h.1 h.2) (by decide)
  | succ n =>
    rw [nI_pred] at h
    obtain ⟨j, hj, hx⟩ := nI_of2 (M := nI n) (n := n) (nI_toInt (by omega)) (Int32.not_lt.mpr h.1) h.2
    exact ⟨j, n + 1, by omega, hn, hx, eM⟩
def puU (u : ShS) (i v : Int32) : ShS := (uO u, uK u, uF u, uS u, uM u, upd (uC u) (ix i) (narrowI (uS u) v))
def F_X5_put : Fn := fun as w K => ∃ (r2 r4 r5 : sv) (hi : Int32) (s m : InnS) (f : Nat → Option Nat) (u : ShS) (d i v : Int32), as = [sR 0, sI d, sI i, sI v] ∧ w = xS r2 r4 r5 hi s m f u ∧ (0 ≤ d ∧ d ≤ 7 → f (ix d) = some 16 ∧ SH u) ∧ (¬ reF u d 2 = 0 → K (some (.inl (reF u d 2))) w) ∧ (reF u d 2 = 0 → ¬ (0 ≤ i ∧ i ≤ uM u - 1) → K (some (.inl (-13))) w) ∧ (reF u d 2 = 0 → (0 ≤ i ∧ i ≤ uM u - 1) → K (some (.inl 0)) (xS r2 r4 r5 hi s m f (puU u i v)))
def ctb_X5_put : List (Nat × (List sv → List sc → (List sv → List sc → Prop) → Prop)) := [(2, cS (some 3) 2 F_X5_rowRefusal), (26, cQ [16, 17] (some 2) 2 F_X3_hasCell), (47, cS none 2 F_X3_lowestBits)]
theorem cok_X5_put : CallOK cX5_put 6 (some .int) RX5 5 ctb_X5_put := CallOK_cons (site_same (rnV (pX5_put_ok 2 _ rfl) ct_X5_rowRefusal kX5_rowRefusal lRX5_44 (by decide))) (CallOK_cons (site_q [16, 17] (by decide) (rnV (pX5_put_ok 26 _ rfl) ct_X3_hasCell kX3_hasCell lRX5_267 (by decide))) (CallOK_cons (site_same (rnS (pX5_put_ok 47 _ rfl) ct_X3_lowestBits kX3_lowestBits lRX5_270 (by decide))) (CallOK_nil)))
theorem ct_X5_put : Ct yX5_put cX5_put 6 (some .int) 5 F_X5_put := by
  intro l D σ cA sz as w K h
  obtain ⟨r2, r4, r5, hi, s, m, f, u, d, i, v, rfl, rfl, hf, hno, hn2, h⟩ := h
  refine metL (pr := lkB pX5_put) (rk := 1) (ct := ctb_X5_put) (fld := lkB flX5) (cst := lkB csX5) (cstL := lkB clX5) [] pX5_put_ok kX5_put.2.2.2.2.2.2.2 fdX5 cdX5 rto1 cok_X5_put (Nat.le_of_ble_eq_true rfl) cut0 ?_ l D σ cA sz
  conv => whnf
  refine ⟨r2, r4, r5, hi, s, m, f, u, d, rfl, rfl, fun z => (hf z).1, ?_⟩
  conv => whnf
  refine ⟨fun hc => ?_, fun hc => ?_⟩
  rotate_left
  · conv => whnf
    exact hno hc
  obtain ⟨hd, h2⟩ := re_0 hc
  conv => whnf
  refine ⟨sh_in hd, ?_⟩
  rw [(hf hd).1]
  conv => whnf
  refine ⟨u, i, rfl, rfl, rfl, ?_⟩
  conv => whnf
  refine ⟨fun h1 => ?_, fun h1 => ?_⟩
  · have h1 := bp_n h1
    have h := h hc h1
    obtain ⟨j, n, hj, hn, ei, -⟩ := cell_n (hf hd).2 h2 h1
    conv => whnf
    refine ⟨by rw [ei]; exact vp_in_nI (by omega) (by decide), ?_⟩
    conv => whnf
    exact h
  · conv => whnf
    exact hn2 hc (bp_0.mp h1)
def coK (u : ShS) (d : Int32) : Int32 := if reF u d 1 = 0 then costK (uK u) (uF u) else reF u d 1
def F_X5_cost : Fn := fun as w K => ∃ (r2 r4 r5 : sv) (hi : Int32) (s m : InnS) (f : Nat → Option Nat) (u : ShS) (d : Int32), as = [sR 0, sI d] ∧ w = xS r2 r4 r5 hi s m f u ∧ (0 ≤ d ∧ d ≤ 7 → f (ix d) = some 16 ∧ SH u) ∧ K (some (.inl (coK u d))) w
def ctb_X5_cost : List (Nat × (List sv → List sc → (List sv → List sc → Prop) → Prop)) := [(2, cS (some 3) 2 F_X5_kindRefusal), (32, cS none 2 F_X1_price)]
theorem cok_X5_cost : CallOK cX5_cost 3 (some .int) RX5 5 ctb_X5_cost := CallOK_cons (site_same (rnV (pX5_cost_ok 2 _ rfl) ct_X5_kindRefusal kX5_kindRefusal lRX5_116 (by decide))) (CallOK_cons (site_same (rnS (pX5_cost_ok 32 _ rfl) ct_X1_price kX1_price lRX5_300 (by decide))) (CallOK_nil))
theorem ct_X5_cost : Ct yX5_cost cX5_cost 3 (some .int) 5 F_X5_cost := by
  intro l D σ cA sz as w K h
  obtain ⟨r2, r4, r5, hi, s, m, f, u, d, rfl, rfl, hf, h⟩ := h
  refine metL (pr := lkB pX5_cost) (rk := 1) (ct := ctb_X5_cost) (fld := lkB flX5) (cst := lkB csX5) (cstL := lkB clX5) [] pX5_cost_ok kX5_cost.2.2.2.2.2.2.2 fdX5 cdX5 rto1 cok_X5_cost (Nat.le_of_ble_eq_true rfl) cut0 ?_ l D σ cA sz
  conv => whnf
  refine ⟨r2, r4, r5, hi, s, m, f, u, d, rfl, rfl, fun z => (hf z).1, ?_⟩
  conv => whnf
  refine ⟨fun hc => ?_, fun hc => ?_⟩
  · obtain ⟨hd, h1⟩ := re_0 hc
    obtain ⟨k1, k2⟩ := (hf hd).2.2.1 h1
    conv => whnf
    refine ⟨sh_in hd, ?_⟩
    rw [(hf hd).1]
    conv => whnf
    refine ⟨sh_in hd, ?_⟩
    rw [(hf hd).1]
    conv => whnf
    refine ⟨⟨k2, k1⟩, ?_⟩
    conv => whnf
    exact kI h (by unfold coK; rw [if_pos hc])
  · conv => whnf
    exact kI h (by unfold coK; rw [if_neg hc])
def cmC (s : InnS) (u : ShS) (d wi : Int32) : Prop := (0 ≤ wi ∧ wi ≤ 9) ∧ reF u d 1 = 0 ∧ iG s < 7
noncomputable def cmR (s : InnS) (u : ShS) (d wi : Int32) : Int32 := if 0 ≤ wi ∧ wi ≤ 9 then (if reF u d 1 = 0 then (if 7 ≤ iG s then -2 else iG s) else reF u d 1) else -1
def F_X5_comes : Fn := fun as w K => ∃ (r2 r4 r5 : sv) (hi : Int32) (s m : InnS) (f : Nat → Option Nat) (u : ShS) (d wi : Int32), as = [sR 0, sI d, sI wi] ∧ w = xS r2 r4 r5 hi s m f u ∧ (0 ≤ d ∧ d ≤ 7 → f (ix d) = some 16) ∧ rng 8 (iG s) ∧ (¬ cmC s u d wi → K (some (.inl (cmR s u d wi))) w) ∧ (cmC s u d wi → K (some (.inl (cmR s u d wi))) (xS r2 r4 r5 hi (adS s (uK u) (uF u) wi) m f u))
def ctb_X5_comes : List (Nat × (List sv → List sc → (List sv → List sc → Prop) → Prop)) := [(1, cS none 1 F_X5_isPlate), (11, cS (some 3) 2 F_X5_kindRefusal), (44, cG [1, 2, 3, 4, 5, 6, 7] (some 0) 4 F_X0_admit)]
theorem cok_X5_comes : CallOK cX5_comes 4 (some .int) RX5 5 ctb_X5_comes := CallOK_cons (site_same (rnS (pX5_comes_ok 1 _ rfl) ct_X5_isPlate kX5_isPlate lRX5_110 (by decide))) (CallOK_cons (site_same (rnV (pX5_comes_ok 11 _ rfl) ct_X5_kindRefusal kX5_kindRefusal lRX5_116 (by decide))) (CallOK_cons (site_gen [1, 2, 3, 4, 5, 6, 7] (by decide) (rnV (pX5_comes_ok 44 _ rfl) ct_X0_admit kX0_admit lRX5_125 (by decide))) (CallOK_nil)))
theorem ct_X5_comes : Ct yX5_comes cX5_comes 4 (some .int) 5 F_X5_comes := by
  intro l D σ cA sz as w K h
  obtain ⟨r2, r4, r5, hi, s, m, f, u, d, wi, rfl, rfl, hf, hG, hno, h⟩ := h
  refine metL (pr := lkB pX5_comes) (rk := 1) (ct := ctb_X5_comes) (fld := lkB flX5) (cst := lkB csX5) (cstL := lkB clX5) [] pX5_comes_ok kX5_comes.2.2.2.2.2.2.2 fdX5 cdX5 rto1 cok_X5_comes (Nat.le_of_ble_eq_true rfl) cut0 ?_ l D σ cA sz
  conv => whnf
  refine ⟨fun hc1 => ?_, fun hc => ?_⟩
  rotate_left
  · have hc := bp_0.mp hc
    conv => whnf
    exact kI (hno (fun z => hc z.1)) (by unfold cmR; rw [if_neg hc])
  have hw := bp_n hc1
  conv => whnf
  refine ⟨r2, r4, r5, hi, s, m, f, u, d, rfl, rfl, hf, ?_⟩
  conv => whnf
  refine ⟨fun hc => ?_, fun hc => ?_⟩
  · obtain ⟨hd, h1⟩ := re_0 hc
    conv => whnf
    refine ⟨sh_in hd, ?_⟩
    rw [hf hd]
    conv => whnf
    refine ⟨sh_in hd, ?_⟩
    rw [hf hd]
    conv => whnf
    refine ⟨s, uK u, uF u, wi, rfl, rfl, hG, fun h7 => ?_, fun h7 => ?_⟩
    · conv => whnf
      exact kI (hno (fun z => absurd z.2.2 (Int32.not_lt.mpr h7))) (by unfold cmR; rw [if_pos hw, if_pos hc, if_pos h7])
    · conv => whnf
      exact kI (h ⟨hw, hc, h7⟩) (by unfold cmR; rw [if_pos hw, if_pos hc, if_neg (Int32.not_le.mpr h7)])
  · conv => whnf
    exact kI (hno (fun z => hc z.2.1)) (by unfold cmR; rw [if_pos hw, if_neg hc])
