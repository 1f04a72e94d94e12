/-! ===== the reference's questions ===== -/
def F_X6_emptyPlates : Fn := fun as w K => ∃ (s : InnS) (q : Pm) (t : Tm), as = [sR 0] ∧ w = modW s q t ∧ K (some (.inl (beF (iP s) 10))) w
def ctb_X6_emptyPlates : List (Nat × (List sv → List sc → (List sv → List sc → Prop) → Prop)) := []
theorem cok_X6_emptyPlates : CallOK cX6_emptyPlates 3 (some .int) RX6 1 ctb_X6_emptyPlates := CallOK_nil
theorem ct_X6_emptyPlates : Ct yX6_emptyPlates cX6_emptyPlates 3 (some .int) 1 F_X6_emptyPlates := by
  intro l D σ cA sz as w K h
  obtain ⟨s, q, t, rfl, rfl, h⟩ := h
  refine metL (pr := lkB pX6_emptyPlates) (rk := 1) (ct := ctb_X6_emptyPlates) (fld := lkB flX6) (cst := lkB csX6) (cstL := lkB clX6) [(4, ([true, true, true], fun n lv st w => ∃ j, j ≤ 10 ∧ n = 10 - j ∧ lv = [some (sR 0), some (sI (beF (iP s) j)), some (sI (nI j))] ∧ st = [] ∧ w = modW s q t))] pX6_emptyPlates_ok kX6_emptyPlates.2.2.2.2.2.2.2 fdX6 cdX6 rto1 cok_X6_emptyPlates (Nat.le_of_ble_eq_true rfl) ?_ ?_ l D σ cA sz
  · refine List.forall_mem_cons.mpr ⟨?_, cut0⟩
    rintro n lv st w ⟨j, hj, rfl, rfl, rfl, rfl⟩
    conv => whnf
    refine ⟨fun hc => ?_, fun hc => ?_⟩
    · conv => whnf
      obtain rfl := lp_ge hj (by decide) hc
      exact h
    · have hlt := lp_lt hj (by decide) hc
      have hv : vp_in (nI j) 10 := vp_in_nI hlt (by decide)
      repeat' ((conv => whnf); (first | refine And.intro (by first | decide | with_reducible assumption) ?_ | with_reducible refine And.intro (fun hc => ?_) (fun hc => ?_) | with_reducible refine And.intro (fun hc => ?_) ?_ | fail))
      all_goals try (conv => whnf)
      · rw [nI_clamp (n := j) (by omega)] at hc
        exact ⟨10 - (j + 1), by omega, j + 1, hlt, rfl, by rw [← nI_1, beF, if_neg hc]; rfl, rfl, rfl⟩
      · rw [nI_clamp (n := j) (by omega)] at hc
        exact ⟨10 - (j + 1), by omega, j + 1, hlt, rfl, by rw [← nI_1, beF, if_pos hc]; rfl, rfl, rfl⟩
  · skip
    repeat' ((conv => whnf); (first | refine And.intro (by first | decide | with_reducible assumption) ?_ | with_reducible refine And.intro (fun hc => ?_) (fun hc => ?_) | with_reducible refine And.intro (fun hc => ?_) ?_ | fail))
    all_goals try (conv => whnf)
    exact ⟨10, 0, Nat.zero_le _, rfl, rfl, rfl, rfl⟩
def F_X6_fullestPlate : Fn := fun as w K => ∃ (s : InnS) (q : Pm) (t : Tm), as = [sR 0] ∧ w = modW s q t ∧ K (some (.inl (flF (iP s) 9))) w
def ctb_X6_fullestPlate : List (Nat × (List sv → List sc → (List sv → List sc → Prop) → Prop)) := []
theorem cok_X6_fullestPlate : CallOK cX6_fullestPlate 3 (some .int) RX6 1 ctb_X6_fullestPlate := CallOK_nil
theorem ct_X6_fullestPlate : Ct yX6_fullestPlate cX6_fullestPlate 3 (some .int) 1 F_X6_fullestPlate := by
  intro l D σ cA sz as w K h
  obtain ⟨s, q, t, rfl, rfl, h⟩ := h
  refine metL (pr := lkB pX6_fullestPlate) (rk := 1) (ct := ctb_X6_fullestPlate) (fld := lkB flX6) (cst := lkB csX6) (cstL := lkB clX6) [(4, ([true, true, true], fun n lv st w => ∃ j, j ≤ 9 ∧ n = 9 - j ∧ lv = [some (sR 0), some (sI (flF (iP s) j)), some (sI (nI (j + 1)))] ∧ st = [] ∧ w = modW s q t))] pX6_fullestPlate_ok kX6_fullestPlate.2.2.2.2.2.2.2 fdX6 cdX6 rto1 cok_X6_fullestPlate (Nat.le_of_ble_eq_true rfl) ?_ ?_ l D σ cA sz
  · refine List.forall_mem_cons.mpr ⟨?_, cut0⟩
    rintro n lv st w ⟨j, hj, rfl, rfl, rfl, rfl⟩
    have hfl := rng_in (fl_in (iP s) j (by omega)) (by decide)
    conv => whnf
    refine ⟨fun hc => ?_, fun hc => ?_⟩
    · conv => whnf
      have := lp_ge (j := j + 1) (M := 10) (by omega) (by decide) hc
      obtain rfl : j = 9 := by omega
      exact h
    · have hlt := lp_lt (j := j + 1) (M := 10) (by omega) (by decide) hc
      have hv1 : vp_in (nI (j + 1)) 10 := vp_in_nI hlt (by decide)
      repeat' ((conv => whnf); (first | refine And.intro (by first | decide | with_reducible assumption) ?_ | with_reducible refine And.intro (fun hc => ?_) (fun hc => ?_) | with_reducible refine And.intro (fun hc => ?_) ?_ | fail))
      all_goals try (conv => whnf)
      · rw [nI_clamp (n := j + 1) (by omega)] at hc
        exact ⟨9 - (j + 1), by omega, j + 1, by omega, rfl, by rw [← nI_1 (j + 1), flF, if_neg (Int32.not_lt.mpr hc)]; rfl, rfl, rfl⟩
      · rw [nI_clamp (n := j + 1) (by omega)] at hc
        exact ⟨9 - (j + 1), by omega, j + 1, by omega, rfl, by rw [← nI_1 (j + 1), flF, if_pos (Int32.not_le.mp hc)]; rfl, rfl, rfl⟩
  · skip
    repeat' ((conv => whnf); (first | refine And.intro (by first | decide | with_reducible assumption) ?_ | with_reducible refine And.intro (fun hc => ?_) (fun hc => ?_) | with_reducible refine And.intro (fun hc => ?_) ?_ | fail))
    all_goals try (conv => whnf)
    exact ⟨9, 0, Nat.zero_le _, rfl, rfl, rfl, rfl⟩
def F_X6_platesOf1 : Fn := fun as w K => ∃ (s : InnS) (q : Pm) (t : Tm) (G : Nat), as = [sR 0, sI 1] ∧ w = modW s q t ∧ iG s = nI G ∧ G < 8 ∧ K (some (.inl (boF (iT s) (iW s) G))) w
def F_X6_platesOf0 : Fn := fun as w K => ∃ (s : InnS) (q : Pm) (t : Tm) (G : Nat), as = [sR 0, sI 0] ∧ w = modW s q t ∧ iG s = nI G ∧ G < 8 ∧ K (some (.inl (boF (iT s) (iL s) G))) w
def ctb_X6_platesOf : List (Nat × (List sv → List sc → (List sv → List sc → Prop) → Prop)) := [(18, cS none 2 F_X6_hasBit)]
theorem cok_X6_platesOf : CallOK cX6_platesOf 4 (some .int) RX6 2 ctb_X6_platesOf := CallOK_cons (site_same (rnS (pX6_platesOf_ok 18 _ rfl) ct_X6_hasBit kX6_hasBit lRX6_105 (by decide))) (CallOK_nil)
theorem ct_X6_platesOf1 : Ct yX6_platesOf cX6_platesOf 4 (some .int) 2 F_X6_platesOf1 := by
  intro l D σ cA sz as w K h
  obtain ⟨s, q, t, G, rfl, rfl, hG, hG7, h⟩ := h
  refine metL (pr := lkB pX6_platesOf) (rk := 1) (ct := ctb_X6_platesOf) (fld := lkB flX6) (cst := lkB csX6) (cstL := lkB clX6) [(4, ([true, true, true, true], fun n lv st w => ∃ j, j ≤ G ∧ n = G - j ∧ lv = [some (sR 0), some (sI 1), some (sI (boF (iT s) (iW s) j)), some (sI (nI j))] ∧ st = [] ∧ w = modW s q t))] pX6_platesOf_ok kX6_platesOf.2.2.2.2.2.2.2 fdX6 cdX6 rto1 cok_X6_platesOf (Nat.le_of_ble_eq_true rfl) ?_ ?_ l D σ cA sz
  · refine List.forall_mem_cons.mpr ⟨?_, cut0⟩
    rintro n lv st w ⟨j, hj, rfl, rfl, rfl, rfl⟩
    conv => whnf
    refine ⟨fun hc => ?_, fun hc => ?_⟩
    · conv => whnf
      rw [hG] at hc
      obtain rfl := lp_ge hj (by omega) hc
      exact h
    · rw [hG] at hc
      have hlt := lp_lt hj (by omega) hc
      have hv : vp_in (nI j) 7 := vp_in_nI (by omega) (by decide)
      conv => whnf
      refine ⟨fun hb => ?_, fun hb => ?_⟩
      · conv => whnf
        exact ⟨G - (j + 1), by omega, j + 1, hlt, rfl, by rw [← nI_1, boF, if_neg (bp_0.mp hb)]; rfl, rfl, rfl⟩
      · conv => whnf
        refine ⟨fun h1 => absurd h1 (by decide), fun _ => ?_⟩
        repeat' ((conv => whnf); (first | refine And.intro (by first | decide | with_reducible assumption) ?_ | with_reducible refine And.intro (fun hc => ?_) (fun hc => ?_) | with_reducible refine And.intro (fun hc => ?_) ?_ | fail))
        all_goals try (conv => whnf)
        exact ⟨G - (j + 1), by omega, j + 1, hlt, rfl, by rw [← nI_1, boF, if_pos (bp_n hb), nI_clamp (n := j) (by omega)]; rfl, rfl, rfl⟩
  · skip
    repeat' ((conv => whnf); (first | refine And.intro (by first | decide | with_reducible assumption) ?_ | with_reducible refine And.intro (fun hc => ?_) (fun hc => ?_) | with_reducible refine And.intro (fun hc => ?_) ?_ | fail))
    all_goals try (conv => whnf)
    exact ⟨G, 0, Nat.zero_le _, rfl, rfl, rfl, rfl⟩
theorem ct_X6_platesOf0 : Ct yX6_platesOf cX6_platesOf 4 (some .int) 2 F_X6_platesOf0 := by
  intro l D σ cA sz as w K h
  obtain ⟨s, q, t, G, rfl, rfl, hG, hG7, h⟩ := h
  refine metL (pr := lkB pX6_platesOf) (rk := 1) (ct := ctb_X6_platesOf) (fld := lkB flX6) (cst := lkB csX6) (cstL := lkB clX6) [(4, ([true, true, true, true], fun n lv st w => ∃ j, j ≤ G ∧ n = G - j ∧ lv = [some (sR 0), some (sI 0), some (sI (boF (iT s) (iL s) j)), some (sI (nI j))] ∧ st = [] ∧ w = modW s q t))] pX6_platesOf_ok kX6_platesOf.2.2.2.2.2.2.2 fdX6 cdX6 rto1 cok_X6_platesOf (Nat.le_of_ble_eq_true rfl) ?_ ?_ l D σ cA sz
  · refine List.forall_mem_cons.mpr ⟨?_, cut0⟩
    rintro n lv st w ⟨j, hj, rfl, rfl, rfl, rfl⟩
    conv => whnf
    refine ⟨fun hc => ?_, fun hc => ?_⟩
    · conv => whnf
      rw [hG] at hc
      obtain rfl := lp_ge hj (by omega) hc
      exact h
    · rw [hG] at hc
      have hlt := lp_lt hj (by omega) hc
      have hv : vp_in (nI j) 7 := vp_in_nI (by omega) (by decide)
      conv => whnf
      refine ⟨fun hb => ?_, fun hb => ?_⟩
      · conv => whnf
        exact ⟨G - (j + 1), by omega, j + 1, hlt, rfl, by rw [← nI_1, boF, if_neg (bp_0.mp hb)]; rfl, rfl, rfl⟩
      · conv => whnf
        refine ⟨fun _ => ?_, fun h1 => absurd rfl h1⟩
        repeat' ((conv => whnf); (first | refine And.intro (by first | decide | with_reducible assumption) ?_ | with_reducible refine And.intro (fun hc => ?_) (fun hc => ?_) | with_reducible refine And.intro (fun hc => ?_) ?_ | fail))
        all_goals try (conv => whnf)
        exact ⟨G - (j + 1), by omega, j + 1, hlt, rfl, by rw [← nI_1, boF, if_pos (bp_n hb), nI_clamp (n := j) (by omega)]; rfl, rfl, rfl⟩
  · skip
    repeat' ((conv => whnf); (first | refine And.intro (by first | decide | with_reducible assumption) ?_ | with_reducible refine And.intro (fun hc => ?_) (fun hc => ?_) | with_reducible refine And.intro (fun hc => ?_) ?_ | fail))
    all_goals try (conv => whnf)
    exact ⟨G, 0, Nat.zero_le _, rfl, rfl, rfl, rfl⟩
theorem wl_inv (t : Int32) (h : PA) : ∀ j, j ≤ 7 → ((wlF t h j).1 = -4 ∧ (wlF t h j).2 = -1) ∨ ∃ i, i < j ∧ (wlF t h j).1 = nI i ∧ (wlF t h j).2 = h i
  | 0, _ => Or.inl ⟨rfl, rfl⟩
  | j + 1, hj => by
    unfold wlF
    split
    · exact Or.inr ⟨j, by omega, rfl, rfl⟩
    · rcases wl_inv t h j (by omega) with e | ⟨i, hi, e⟩
      · exact Or.inl e
      · exact Or.inr ⟨i, by omega, e⟩
def F_X6_wellest : Fn := fun as w K => ∃ (s : InnS) (q : Pm) (t : Tm) (G : Nat), as = [sR 0] ∧ w = modW s q t ∧ iG s = nI G ∧ G < 8 ∧ GS s ∧ K (some (.inl (wlF (iT s) (iH s) G).1)) w
def ctb_X6_wellest : List (Nat × (List sv → List sc → (List sv → List sc → Prop) → Prop)) := [(18, cS none 2 F_X6_hasBit)]
theorem cok_X6_wellest : CallOK cX6_wellest 3 (some .int) RX6 2 ctb_X6_wellest := CallOK_cons (site_same (rnS (pX6_wellest_ok 18 _ rfl) ct_X6_hasBit kX6_hasBit lRX6_105 (by decide))) (CallOK_nil)
theorem ct_X6_wellest : Ct yX6_wellest cX6_wellest 3 (some .int) 2 F_X6_wellest := by
  intro l D σ cA sz as w K h
  obtain ⟨s, q, t, G, rfl, rfl, hG, hG7, hGS, h⟩ := h
  refine metL (pr := lkB pX6_wellest) (rk := 1) (ct := ctb_X6_wellest) (fld := lkB flX6) (cst := lkB csX6) (cstL := lkB clX6) [(5, ([true, true, true], fun n lv st w => ∃ j, j ≤ G ∧ n = G - j ∧ lv = [some (sR 0), some (sI (wlF (iT s) (iH s) j).1), some (sI (nI j))] ∧ st = [] ∧ w = modW s q t))] pX6_wellest_ok kX6_wellest.2.2.2.2.2.2.2 fdX6 cdX6 rto1 cok_X6_wellest (Nat.le_of_ble_eq_true rfl) ?_ ?_ l D σ cA sz
  · refine List.forall_mem_cons.mpr ⟨?_, cut0⟩
    rintro n lv st w ⟨j, hj, rfl, rfl, rfl, rfl⟩
    have hinv := wl_inv (iT s) (iH s) j (by omega)
    conv => whnf
    refine ⟨fun hc => ?_, fun hc => ?_⟩
    · conv => whnf
      rw [hG] at hc
      obtain rfl := lp_ge hj (by omega) hc
      exact h
    · rw [hG] at hc
      have hlt := lp_lt hj (by omega) hc
      have hv : vp_in (nI j) 7 := vp_in_nI (by omega) (by decide)
      have ej : (nI j).toNatClampNeg = j := nI_clamp (by omega)
      conv => whnf
      refine ⟨fun hb => ?_, fun hb => ?_⟩
      · conv => whnf
        exact ⟨G - (j + 1), by omega, j + 1, hlt, rfl, by rw [← nI_1, wlF, if_neg (fun q => bp_0.mp hb q.1)]; rfl, rfl, rfl⟩
      · have hb := bp_n hb
        conv => whnf
        refine ⟨fun h1 => ?_, fun h1 => ?_⟩
        · have e2 : (wlF (iT s) (iH s) j).2 = -1 := by
            rcases hinv with e | ⟨i, hi, e, -⟩
            · exact e.2
            · rw [e] at h1; exact absurd h1 (nI_pos (by omega))
          have h2 : (wlF (iT s) (iH s) j).2 < iH s j := by
            rw [e2]
            obtain ⟨a, ha, e⟩ := hGS.2.2.2.2.2 j (by omega)
            rw [e]
            exact Int32.lt_of_lt_of_le (by decide : (-1 : Int32) < 0) (nI_pos' (by omega))
          conv => whnf
          exact ⟨G - (j + 1), by omega, j + 1, hlt, rfl, by rw [← nI_1, wlF, if_pos ⟨hb, h2⟩]; rfl, rfl, rfl⟩
        · obtain ⟨i, hi, e1, e2⟩ := hinv.resolve_left (fun e => h1 (by rw [e.1]; decide))
          have ei : (nI i).toNatClampNeg = i := nI_clamp (by omega)
          have hv2 : vp_in (wlF (iT s) (iH s) j).1 7 := by rw [e1]; exact vp_in_nI (by omega) (by decide)
          conv => whnf
          refine ⟨hv, ?_⟩
          conv => whnf
          refine ⟨hv2, ?_⟩
          conv => whnf
          refine ⟨fun h3 => ?_, fun h3 => ?_⟩
          · rw [e1, ei, ej, ← e2] at h3
            conv => whnf
            exact ⟨G - (j + 1), by omega, j + 1, hlt, rfl, by rw [← nI_1, wlF, if_neg (fun q => absurd q.2 (Int32.not_lt.mpr h3))]; rfl, rfl, rfl⟩
          · rw [e1, ei, ej, ← e2] at h3
            conv => whnf
            exact ⟨G - (j + 1), by omega, j + 1, hlt, rfl, by rw [← nI_1, wlF, if_pos ⟨hb, Int32.not_le.mp h3⟩]; rfl, rfl, rfl⟩
  · skip
    repeat' ((conv => whnf); (first | refine And.intro (by first | decide | with_reducible assumption) ?_ | with_reducible refine And.intro (fun hc => ?_) (fun hc => ?_) | with_reducible refine And.intro (fun hc => ?_) ?_ | fail))
    all_goals try (conv => whnf)
    exact ⟨G, 0, Nat.zero_le _, rfl, rfl, rfl, rfl⟩
