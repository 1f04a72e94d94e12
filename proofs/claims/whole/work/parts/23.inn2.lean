/-! ===== an inn's questions ===== -/
/-- nothing lies beyond the rows -/
def ZB (s : InnS) : Prop := (∀ j, 7 ≤ j → iK s j = 0 ∧ iF s j = 0 ∧ iW s j = 0 ∧ iL s j = 0 ∧ iH s j = 0) ∧ ∀ k, 10 ≤ k → iP s k = 0
theorem lp_ge {j M : Nat} (hj : j ≤ M) (hM : M < 2 ^ 31) (hc : nI M ≤ nI j) : j = M := by
  have := (nI_leI hM (by omega)).mp hc
  omega
theorem lp_lt {j M : Nat} (hj : j ≤ M) (hM : M < 2 ^ 31) (hc : ¬ nI M ≤ nI j) : j < M := by
  rcases Nat.lt_or_ge j M with q | q
  · exact q
  · exact absurd (nI_le q (by omega)) hc
noncomputable def hsF (h : PA) (who : Int32) : Nat → Int32
  | 0 => 0
  | j + 1 => hsF h who j + @ite _ (tb who (nI j)) (Classical.propDecidable _) (h j) 0
def beF (p : PA) : Nat → Int32
  | 0 => 0
  | k + 1 => beF p k ||| (if p k = 0 then jshl 1 (nI k) else 0)
noncomputable def boF (t : Int32) (f : PA) : Nat → Int32
  | 0 => 0
  | g + 1 => boF t f g ||| @ite _ (tb t (nI g)) (Classical.propDecidable _) (jshl 1 (f g)) 0
def flF (p : PA) : Nat → Int32
  | 0 => 0
  | k + 1 => if p (ix (flF p k)) < p (k + 1) then nI (k + 1) else flF p k
noncomputable def wlF (t : Int32) (h : PA) : Nat → Int32 × Int32
  | 0 => (-4, -1)
  | g + 1 => @ite _ (tb t (nI g) ∧ (wlF t h g).2 < h g) (Classical.propDecidable _) (nI g, h g) (wlF t h g)
def F_X0_platesInAll : Fn := fun as w K => ∃ (s : InnS), as = [sR 0] ∧ w = innW s ∧ K (some (.inl (bx_sum (iP s) 10))) w
def ctb_X0_platesInAll : List (Nat × (List sv → List sc → (List sv → List sc → Prop) → Prop)) := []
theorem cok_X0_platesInAll : CallOK cX0_platesInAll 3 (some .int) RX0 1 ctb_X0_platesInAll := CallOK_nil
theorem ct_X0_platesInAll : Ct yX0_platesInAll cX0_platesInAll 3 (some .int) 1 F_X0_platesInAll := by
  intro l D σ cA sz as w K h
  obtain ⟨s, rfl, rfl, h⟩ := h
  refine metL (pr := lkB pX0_platesInAll) (rk := 1) (ct := ctb_X0_platesInAll) (fld := lkB flX0) (cst := lkB csX0) (cstL := lkB clX0) [(4, ([true, true, true], fun n lv st w => ∃ j, j ≤ 10 ∧ n = 10 - j ∧ lv = [some (sR 0), some (sI (bx_sum (iP s) j)), some (sI (nI j))] ∧ st = [] ∧ w = innW s))] pX0_platesInAll_ok kX0_platesInAll.2.2.2.2.2.2.2 fdX0 cdX0 rto1 cok_X0_platesInAll (Nat.le_of_ble_eq_true rfl) ?_ ?_ l D σ cA sz
  · refine List.forall_mem_cons.mpr ⟨?_, cut0⟩
    rintro n lv st w ⟨j, hj, rfl, rfl, rfl, rfl⟩
    conv => whnf
    refine ⟨fun hc => ?_, fun hc => ?_⟩
    · conv => whnf
      obtain rfl := lp_ge hj (by decide) hc
      exact h
    · have hlt := lp_lt hj (by decide) hc
      repeat' ((conv => whnf); (first | refine And.intro (by first | decide | exact vp_in_nI hlt (by decide)) ?_ | with_reducible refine And.intro (fun hc => ?_) (fun hc => ?_) | with_reducible refine And.intro (fun hc => ?_) ?_ | fail))
      all_goals try (conv => whnf)
      exact ⟨10 - (j + 1), by omega, j + 1, hlt, rfl, by rw [← nI_1, nI_clamp (n := j) (by omega)]; rfl, rfl, rfl⟩
  · skip
    repeat' ((conv => whnf); (first | refine And.intro (by first | decide | with_reducible assumption) ?_ | with_reducible refine And.intro (fun hc => ?_) (fun hc => ?_) | with_reducible refine And.intro (fun hc => ?_) ?_ | fail))
    all_goals try (conv => whnf)
    exact ⟨10, 0, Nat.zero_le _, rfl, rfl, rfl, rfl⟩
def F_X0_emptyPlates : Fn := fun as w K => ∃ (s : InnS), as = [sR 0] ∧ w = innW s ∧ K (some (.inl (beF (iP s) 10))) w
def ctb_X0_emptyPlates : List (Nat × (List sv → List sc → (List sv → List sc → Prop) → Prop)) := []
theorem cok_X0_emptyPlates : CallOK cX0_emptyPlates 3 (some .int) RX0 1 ctb_X0_emptyPlates := CallOK_nil
theorem ct_X0_emptyPlates : Ct yX0_emptyPlates cX0_emptyPlates 3 (some .int) 1 F_X0_emptyPlates := by
  intro l D σ cA sz as w K h
  obtain ⟨s, rfl, rfl, h⟩ := h
  refine metL (pr := lkB pX0_emptyPlates) (rk := 1) (ct := ctb_X0_emptyPlates) (fld := lkB flX0) (cst := lkB csX0) (cstL := lkB clX0) [(4, ([true, true, true], fun n lv st w => ∃ j, j ≤ 10 ∧ n = 10 - j ∧ lv = [some (sR 0), some (sI (beF (iP s) j)), some (sI (nI j))] ∧ st = [] ∧ w = innW s))] pX0_emptyPlates_ok kX0_emptyPlates.2.2.2.2.2.2.2 fdX0 cdX0 rto1 cok_X0_emptyPlates (Nat.le_of_ble_eq_true rfl) ?_ ?_ l D σ cA sz
  · refine List.forall_mem_cons.mpr ⟨?_, cut0⟩
    rintro n lv st w ⟨j, hj, rfl, rfl, rfl, rfl⟩
    conv => whnf
    refine ⟨fun hc => ?_, fun hc => ?_⟩
    · conv => whnf
      obtain rfl := lp_ge hj (by decide) hc
      exact h
    · have hlt := lp_lt hj (by decide) hc
      repeat' ((conv => whnf); (first | refine And.intro (by first | decide | exact vp_in_nI hlt (by decide)) ?_ | with_reducible refine And.intro (fun hc => ?_) (fun hc => ?_) | with_reducible refine And.intro (fun hc => ?_) ?_ | fail))
      all_goals try (conv => whnf)
      · rw [nI_clamp (n := j) (by omega)] at hc
        exact ⟨10 - (j + 1), by omega, j + 1, hlt, rfl, by rw [← nI_1, beF, if_neg hc]; rfl, rfl, rfl⟩
      · rw [nI_clamp (n := j) (by omega)] at hc
        exact ⟨10 - (j + 1), by omega, j + 1, hlt, rfl, by rw [← nI_1, beF, if_pos hc]; rfl, rfl, rfl⟩
  · skip
    repeat' ((conv => whnf); (first | refine And.intro (by first | decide | with_reducible assumption) ?_ | with_reducible refine And.intro (fun hc => ?_) (fun hc => ?_) | with_reducible refine And.intro (fun hc => ?_) ?_ | fail))
    all_goals try (conv => whnf)
    exact ⟨10, 0, Nat.zero_le _, rfl, rfl, rfl, rfl⟩
def F_X0_fullest : Fn := fun as w K => ∃ (s : InnS), as = [sR 0] ∧ w = innW s ∧ K (some (.inl (flF (iP s) 9))) w
theorem fl_in (p : PA) : ∀ k, k < 10 → rng 10 (flF p k)
  | 0, _ => ⟨0, by decide, nI_0.symm⟩
  | k + 1, h => by
    unfold flF
    split
    · exact ⟨k + 1, h, rfl⟩
    · exact fl_in p k (by omega)
def ctb_X0_fullest : List (Nat × (List sv → List sc → (List sv → List sc → Prop) → Prop)) := []
theorem cok_X0_fullest : CallOK cX0_fullest 3 (some .int) RX0 1 ctb_X0_fullest := CallOK_nil
theorem ct_X0_fullest : Ct yX0_fullest cX0_fullest 3 (some .int) 1 F_X0_fullest := by
  intro l D σ cA sz as w K h
  obtain ⟨s, rfl, rfl, h⟩ := h
  refine metL (pr := lkB pX0_fullest) (rk := 1) (ct := ctb_X0_fullest) (fld := lkB flX0) (cst := lkB csX0) (cstL := lkB clX0) [(4, ([true, true, true], fun n lv st w => ∃ j, j ≤ 9 ∧ n = 9 - j ∧ lv = [some (sR 0), some (sI (flF (iP s) j)), some (sI (nI (j + 1)))] ∧ st = [] ∧ w = innW s))] pX0_fullest_ok kX0_fullest.2.2.2.2.2.2.2 fdX0 cdX0 rto1 cok_X0_fullest (Nat.le_of_ble_eq_true rfl) ?_ ?_ l D σ cA sz
  · refine List.forall_mem_cons.mpr ⟨?_, cut0⟩
    rintro n lv st w ⟨j, hj, rfl, rfl, rfl, rfl⟩
    have hfl := rng_in (fl_in (iP s) j (by omega)) (by decide)
    conv => whnf
    refine ⟨fun hc => ?_, fun hc => ?_⟩
    · conv => whnf
      have := lp_ge (j := j + 1) (M := 10) (by omega) (by decide) hc
      obtain rfl : j = 9 := by omega
      exact h
    · have hlt := lp_lt (j := j + 1) (M := 10) (by omega) (by decide) hc
      have hv1 : vp_in (nI (j + 1)) 10 := vp_in_nI hlt (by decide)
      repeat' ((conv => whnf); (first | refine And.intro (by first | decide | with_reducible assumption) ?_ | with_reducible refine And.intro (fun hc => ?_) (fun hc => ?_) | with_reducible refine And.intro (fun hc => ?_) ?_ | fail))
      all_goals try (conv => whnf)
      · rw [nI_clamp (n := j + 1) (by omega)] at hc
        exact ⟨9 - (j + 1), by omega, j + 1, by omega, rfl, by rw [← nI_1 (j + 1), flF, if_neg (Int32.not_lt.mpr hc)]; rfl, rfl, rfl⟩
      · rw [nI_clamp (n := j + 1) (by omega)] at hc
        exact ⟨9 - (j + 1), by omega, j + 1, by omega, rfl, by rw [← nI_1 (j + 1), flF, if_pos (Int32.not_le.mp hc)]; rfl, rfl, rfl⟩
  · skip
    repeat' ((conv => whnf); (first | refine And.intro (by first | decide | with_reducible assumption) ?_ | with_reducible refine And.intro (fun hc => ?_) (fun hc => ?_) | with_reducible refine And.intro (fun hc => ?_) ?_ | fail))
    all_goals try (conv => whnf)
    exact ⟨9, 0, Nat.zero_le _, rfl, rfl, rfl, rfl⟩
def F_X0_healthOf : Fn := fun as w K => ∃ (s : InnS) (who : Int32) (G : Nat), as = [sR 0, sI who] ∧ w = innW s ∧ iG s = nI G ∧ G < 8 ∧ K (some (.inl (hsF (iH s) who G))) w
def ctb_X0_healthOf : List (Nat × (List sv → List sc → (List sv → List sc → Prop) → Prop)) := []
theorem cok_X0_healthOf : CallOK cX0_healthOf 4 (some .int) RX0 1 ctb_X0_healthOf := CallOK_nil
theorem ct_X0_healthOf : Ct yX0_healthOf cX0_healthOf 4 (some .int) 1 F_X0_healthOf := by
  intro l D σ cA sz as w K h
  obtain ⟨s, who, G, rfl, rfl, hG, hG7, h⟩ := h
  refine metL (pr := lkB pX0_healthOf) (rk := 1) (ct := ctb_X0_healthOf) (fld := lkB flX0) (cst := lkB csX0) (cstL := lkB clX0) [(4, ([true, true, true, true], fun n lv st w => ∃ j, j ≤ G ∧ n = G - j ∧ lv = [some (sR 0), some (sI who), some (sI (hsF (iH s) who j)), some (sI (nI j))] ∧ st = [] ∧ w = innW s))] pX0_healthOf_ok kX0_healthOf.2.2.2.2.2.2.2 fdX0 cdX0 rto1 cok_X0_healthOf (Nat.le_of_ble_eq_true rfl) ?_ ?_ l D σ cA sz
  · refine List.forall_mem_cons.mpr ⟨?_, cut0⟩
    rintro n lv st w ⟨j, hj, rfl, rfl, rfl, rfl⟩
    conv => whnf
    refine ⟨fun hc => ?_, fun hc => ?_⟩
    · conv => whnf
      rw [hG] at hc
      obtain rfl := lp_ge hj (by omega) hc
      exact h
    · rw [hG] at hc
      have hlt := lp_lt hj (by omega) hc
      repeat' ((conv => whnf); (first | refine And.intro (by first | decide | exact vp_in_nI (by omega) (by decide)) ?_ | with_reducible refine And.intro (fun hc => ?_) (fun hc => ?_) | with_reducible refine And.intro (fun hc => ?_) ?_ | fail))
      all_goals try (conv => whnf)
      · exact ⟨G - (j + 1), by omega, j + 1, hlt, rfl, by rw [← nI_1, hsF, if_neg (fun q => q hc)]; rfl, rfl, rfl⟩
      · exact ⟨G - (j + 1), by omega, j + 1, hlt, rfl, by rw [← nI_1, hsF, if_pos (show tb who (nI j) from hc), nI_clamp (n := j) (by omega)]; rfl, rfl, rfl⟩
  · skip
    repeat' ((conv => whnf); (first | refine And.intro (by first | decide | with_reducible assumption) ?_ | with_reducible refine And.intro (fun hc => ?_) (fun hc => ?_) | with_reducible refine And.intro (fun hc => ?_) ?_ | fail))
    all_goals try (conv => whnf)
    exact ⟨G, 0, Nat.zero_le _, rfl, rfl, rfl, rfl⟩
def F_X0_wellest : Fn := fun as w K => ∃ (s : InnS) (G : Nat), as = [sR 0] ∧ w = innW s ∧ iG s = nI G ∧ G < 8 ∧ K (some (.inl (wlF (iT s) (iH s) G).1)) w
def ctb_X0_wellest : List (Nat × (List sv → List sc → (List sv → List sc → Prop) → Prop)) := [(17, cS (some 0) 2 F_X0_isThere)]
theorem cok_X0_wellest : CallOK cX0_wellest 4 (some .int) RX0 2 ctb_X0_wellest := CallOK_cons (site_same (rnV (pX0_wellest_ok 17 _ rfl) ct_X0_isThere kX0_isThere lRX0_76 (by decide))) (CallOK_nil)
theorem ct_X0_wellest : Ct yX0_wellest cX0_wellest 4 (some .int) 2 F_X0_wellest := by
  intro l D σ cA sz as w K h
  obtain ⟨s, G, rfl, rfl, hG, hG7, h⟩ := h
  refine metL (pr := lkB pX0_wellest) (rk := 1) (ct := ctb_X0_wellest) (fld := lkB flX0) (cst := lkB csX0) (cstL := lkB clX0) [(7, ([true, true, true, true], fun n lv st w => ∃ j, j ≤ G ∧ n = G - j ∧ lv = [some (sR 0), some (sI (wlF (iT s) (iH s) j).1), some (sI (wlF (iT s) (iH s) j).2), some (sI (nI j))] ∧ st = [] ∧ w = innW s))] pX0_wellest_ok kX0_wellest.2.2.2.2.2.2.2 fdX0 cdX0 rto1 cok_X0_wellest (Nat.le_of_ble_eq_true rfl) ?_ ?_ l D σ cA sz
  · refine List.forall_mem_cons.mpr ⟨?_, cut0⟩
    rintro n lv st w ⟨j, hj, rfl, rfl, rfl, rfl⟩
    conv => whnf
    refine ⟨fun hc => ?_, fun hc => ?_⟩
    · conv => whnf
      rw [hG] at hc
      obtain rfl := lp_ge hj (by omega) hc
      exact h
    · rw [hG] at hc
      have hlt := lp_lt hj (by omega) hc
      conv => whnf
      refine ⟨s, nI j, rfl, rfl, ?_⟩
      repeat' ((conv => whnf); (first | refine And.intro (by first | decide | exact vp_in_nI (by omega) (by decide)) ?_ | with_reducible refine And.intro (fun hc => ?_) (fun hc => ?_) | with_reducible refine And.intro (fun hc => ?_) ?_ | fail))
      all_goals try (conv => whnf)
      · exact ⟨G - (j + 1), by omega, j + 1, hlt, rfl, by rw [← nI_1, wlF, if_neg (fun q => bp_0.mp hc q.1)]; rfl, rfl, rfl⟩
      · rw [nI_clamp (n := j) (by omega)] at hc
        exact ⟨G - (j + 1), by omega, j + 1, hlt, rfl, by rw [← nI_1, wlF, if_neg (fun q => absurd q.2 (Int32.not_lt.mpr hc))]; rfl, rfl, rfl⟩
      · rename_i hb
        rw [nI_clamp (n := j) (by omega)] at hc
        exact ⟨G - (j + 1), by omega, j + 1, hlt, rfl, by rw [← nI_1, wlF, if_pos ⟨Classical.not_not.mp (fun q => hb (bp_0.mpr q)), Int32.not_le.mp hc⟩, nI_clamp (n := j) (by omega)]; rfl, rfl, rfl⟩
  · skip
    repeat' ((conv => whnf); (first | refine And.intro (by first | decide | with_reducible assumption) ?_ | with_reducible refine And.intro (fun hc => ?_) (fun hc => ?_) | with_reducible refine And.intro (fun hc => ?_) ?_ | fail))
    all_goals try (conv => whnf)
    exact ⟨G, 0, Nat.zero_le _, rfl, rfl, rfl, rfl⟩
