/-! ===== two, both sides ===== -/
theorem x12 : ∀ p : Fin 4, nI p.val ^^^ 2 = nI (x2p p.val) ∧ x2p p.val < 4 ∧ nI p.val ^^^ 1 = nI (x1p p.val) ∧ x1p p.val < 4 ∧ 10 * jshr (nI p.val) 1 + (nI p.val &&& 1) = nI (10 * (p.val / 2) + p.val % 2) := by decide +kernel
theorem k12 : ∀ p : Fin 4, 2 * (1 - nI p.val / 2) + jrem (nI p.val) 2 = nI (x2p p.val) ∧ 2 * (nI p.val / 2) + 1 - jrem (nI p.val) 2 = nI (x1p p.val) ∧ 10 * (nI p.val / 2) + jrem (nI p.val) 2 = nI (10 * (p.val / 2) + p.val % 2) ∧ 1 - nI p.val / 2 = (if nI p.val &&& 2 = 0 then 1 else 0) ∧ 1 - jrem (nI p.val) 2 = (if nI p.val &&& 1 = 0 then 1 else 0) := by decide +kernel
theorem twA_none {P : Nat → Prop} (h : ∀ i, i < 4 → ¬ P i) : twA P = -4 := by unfold twA; rw [fst_none h, if_pos rfl]
theorem twA_some {P : Nat → Prop} {j : Nat} (hj : j < 4) (hp : P j) (hb : ∀ i, i < j → ¬ P i) : twA P = nI (10 * (j / 2) + j % 2) := by
  unfold twA
  rw [fst_some hp hb hj, if_neg (by omega)]
def F_X5_two : Fn := fun as w K => ∃ (r2 r3 r4 : sv) (hi : Int32) (s m : InnS) (py : PA) (N : Nat) (a b n : Int32), as = [sR 0, sI a, sI b, sI n] ∧ w = xP r2 r3 r4 hi s m py ∧ IV s N ∧ ZB m ∧ ∀ m' py', ZB m' → K (some (.inl (tuR s a b n))) (xP r2 r3 r4 hi s m' py')
def ctb_X5_two : List (Nat × (List sv → List sc → (List sv → List sc → Prop) → Prop)) := [(5, cQ [1, 2, 3, 4, 5, 6, 7] (some 0) 2 F_X0_knows), (16, cQ [1, 2, 3, 4, 5, 6, 7] (some 0) 2 F_X0_knows), (31, cS none 3 F_X5_within), (44, cQ [1, 2, 3, 4, 5, 6, 7] (some 0) 2 F_X0_isThere), (55, cQ [1, 2, 3, 4, 5, 6, 7] (some 0) 2 F_X0_isThere), (79, cS (some 3) 5 F_X5_choose)]
theorem cok_X5_two : CallOK cX5_two 7 (some .int) RX5 7 ctb_X5_two := CallOK_cons (site_q [1, 2, 3, 4, 5, 6, 7] (by decide) (rnV (pX5_two_ok 5 _ rfl) ct_X0_knows kX0_knows lRX5_80 (by decide))) (CallOK_cons (site_q [1, 2, 3, 4, 5, 6, 7] (by decide) (rnV (pX5_two_ok 16 _ rfl) ct_X0_knows kX0_knows lRX5_80 (by decide))) (CallOK_cons (site_same (rnS (pX5_two_ok 31 _ rfl) ct_X5_within kX5_within lRX5_129 (by decide))) (CallOK_cons (site_q [1, 2, 3, 4, 5, 6, 7] (by decide) (rnV (pX5_two_ok 44 _ rfl) ct_X0_isThere kX0_isThere lRX5_98 (by decide))) (CallOK_cons (site_q [1, 2, 3, 4, 5, 6, 7] (by decide) (rnV (pX5_two_ok 55 _ rfl) ct_X0_isThere kX0_isThere lRX5_98 (by decide))) (CallOK_cons (site_same (rnV (pX5_two_ok 79 _ rfl) ct_X5_choose kX5_choose lRX5_223 (by decide))) (CallOK_nil))))))
theorem ct_X5_two : Ct yX5_two cX5_two 7 (some .int) 7 F_X5_two := by
  intro l D σ cA sz as w K h
  obtain ⟨r2, r3, r4, hi, s, m, py, N, a, b, n, rfl, rfl, ⟨hZ, hG, hN, hN9, hB⟩, hM, h⟩ := h
  have h0 := h m py hM
  refine metL (pr := lkB pX5_two) (rk := 1) (ct := ctb_X5_two) (fld := lkB flX5) (cst := lkB csX5) (cstL := lkB clX5) [(67, ([true, true, true, true, true, false, false], fun x lv st w => ∃ (p : Nat) (m' : InnS) (py' : PA), p ≤ 4 ∧ x = 10 + (4 - p) ∧ twC s a b n ∧ (tb (iT s) a ∧ tb (iT s) b) ∧ ZB m' ∧ (∀ i, i < p → py' i = pyA s a b (ix n) i ∧ py' (4 + i) = pyB s a b (ix n) i) ∧ lv = [some (sR 0), some (sI a), some (sI b), some (sI n), some (sI (nI p)), none, none] ∧ st = [] ∧ w = xP r2 r3 r4 hi s m' py')), (91, ([true, true, true, true, true, false, false], fun x lv st w => ∃ (p : Nat) (m' : InnS) (py' : PA), p ≤ 4 ∧ x = 4 - p ∧ twC s a b n ∧ (tb (iT s) a ∧ tb (iT s) b) ∧ ZB m' ∧ (∀ i, i < 4 → py' i = pyA s a b (ix n) i ∧ py' (4 + i) = pyB s a b (ix n) i) ∧ (∀ i, i < p → ¬ twP s a b (ix n) i) ∧ lv = [some (sR 0), some (sI a), some (sI b), some (sI n), some (sI (nI p)), none, none] ∧ st = [] ∧ w = xP r2 r3 r4 hi s m' py'))] pX5_two_ok kX5_two.2.2.2.2.2.2.2 fdX5 cdX5 rto1 cok_X5_two (Nat.le_of_ble_eq_true rfl) ?_ ?_ l D σ cA sz
  · refine List.forall_mem_cons.mpr ⟨?_, List.forall_mem_cons.mpr ⟨?_, cut0⟩⟩
    · rintro x lv st w ⟨p, m', py', hp, rfl, hC, hTT, hM', hpy, rfl, rfl, rfl⟩
      obtain ⟨n', hn1, hn3, en⟩ := n30 hC.2.2.2
      have eix : ix n = n' := by rw [en]; exact nI_clamp (by omega)
      conv => whnf
      refine ⟨fun hc => ?_, fun hc => ?_⟩
      · obtain rfl := lp_ge (M := 4) hp (by decide) hc
        conv => whnf
        exact ⟨4, by omega, 0, m', py', by decide, rfl, hC, hTT, hM', hpy, lt_0, rfl, rfl, rfl⟩
      have hlt : p < 4 := lp_lt (M := 4) hp (by decide) hc
      conv => whnf
      rw [eix] at hpy
      refine ⟨r2, r3, r4, hi, s, m', py', N, n', p, a, b, by rw [en], rfl, kn_in hG hC.1, kn_in hG hC.2.1, hlt, hn1, hn3, hZ, hG, hN, hN9, hM', fun m2 hM2 => ?_⟩
      conv => whnf
      refine ⟨10 + (4 - (p + 1)), by omega, p + 1, m2, _, hlt, rfl, hC, hTT, hM2, fun i hi => ?_, by rw [← nI_1]; rfl, rfl, rfl⟩
      rw [eix]
      by_cases e : i = p
      · rw [e]
        refine ⟨?_, pk_us⟩
        rw [pk_un (by omega), pk_us]
      · have := hpy i (by omega)
        rw [pk_un (by omega), pk_un e, pk_un (by omega), pk_un (by omega)]
        exact this
    · rintro x lv st w ⟨p, m', py', hp, rfl, hC, hTT, hM', hpy, hall, rfl, rfl, rfl⟩
      have hr : tuR s a b n = twA (twP s a b (ix n)) := by unfold tuR; rw [if_pos hC, if_pos hTT]
      conv => whnf
      refine ⟨fun hc => ?_, fun hc => ?_⟩
      · obtain rfl := lp_ge (M := 4) hp (by decide) hc
        conv => whnf
        exact kI (h _ _ hM') (by rw [hr, twA_none hall])
      have hlt : p < 4 := lp_lt (M := 4) hp (by decide) hc
      obtain ⟨f1, f2, f3, f4, f5⟩ := x12 ⟨p, hlt⟩
      dsimp only at f1 f2 f3 f4 f5
      have ep : (nI p).toNatClampNeg = p := nI_clamp (by omega)
      have e4 : ∀ i, 4 + nI i = nI (4 + i) := fun i => by rw [show (4 : Int32) = nI 4 by decide, nI_add]
      have v1 : py' p = pyA s a b (ix n) p := (hpy p hlt).1
      have v2 : py' (x2p p) = pyA s a b (ix n) (x2p p) := (hpy _ f2).1
      have v3 : py' (4 + p) = pyB s a b (ix n) p := (hpy p hlt).2
      have v4 : py' (4 + x1p p) = pyB s a b (ix n) (x1p p) := (hpy _ f4).2
      have hP : twP s a b (ix n) p ↔ (py' (x2p p) ≤ py' p ∧ py' (4 + x1p p) ≤ py' (4 + p)) := by unfold twP; rw [v1, v2, v3, v4]
      have nx : ¬ twP s a b (ix n) p → ∃ n', n' < 4 - p ∧ ∃ (p_1 : Nat) (m'_1 : InnS) (py'_1 : PA), p_1 ≤ 4 ∧ n' = 4 - p_1 ∧ twC s a b n ∧ (tb (iT s) a ∧ tb (iT s) b) ∧ ZB m'_1 ∧ (∀ i, i < 4 → py'_1 i = pyA s a b (ix n) i ∧ py'_1 (4 + i) = pyB s a b (ix n) i) ∧ (∀ i, i < p_1 → ¬ twP s a b (ix n) i) ∧ [some (sR 0), some (sI a), some (sI b), some (sI n), some (sI (nI p + 1)), none, none] = [some (sR 0), some (sI a), some (sI b), some (sI n), some (sI (nI p_1)), none, none] ∧ ([] : List sv) = [] ∧ xP r2 r3 r4 hi s m' py' = xP r2 r3 r4 hi s m'_1 py'_1 := fun hn =>
        ⟨4 - (p + 1), by omega, p + 1, m', py', hlt, rfl, hC, hTT, hM', hpy, lt_s hall hn, by rw [nI_1], rfl, rfl⟩
      have fin : twP s a b (ix n) p → K (some (.inl (nI (10 * (p / 2) + p % 2)))) (xP r2 r3 r4 hi s m' py') := fun hp => kI (h _ _ hM') (by rw [hr, twA_some hlt hp hall])
      conv => whnf
      refine ⟨vp_in_nI (by omega) (by decide), ?_⟩
      rw [ep]
      conv => whnf
      rw [f1]
      refine ⟨vp_in_nI (by omega) (by decide), ?_⟩
      rw [show (nI (x2p p)).toNatClampNeg = x2p p from nI_clamp (by omega)]
      conv => whnf
      refine ⟨fun g1 => ?_, fun g1 => ?_⟩
      · conv => whnf
        rw [e4]
        refine ⟨vp_in_nI (by omega) (by decide), ?_⟩
        rw [show (nI (4 + p)).toNatClampNeg = 4 + p from nI_clamp (by omega)]
        conv => whnf
        rw [f3, e4]
        refine ⟨vp_in_nI (by omega) (by decide), ?_⟩
        rw [show (nI (4 + x1p p)).toNatClampNeg = 4 + x1p p from nI_clamp (by omega)]
        conv => whnf
        refine ⟨fun g2 => ?_, fun g2 => ?_⟩
        all_goals
          repeat' ((conv => whnf); (first | ((with_reducible refine And.intro (fun z => ?_) (fun z => ?_)) <;> (try (first | exact absurd z (by first | assumption | decide) | exact absurd (by first | assumption | decide) z))) | fail))
          all_goals (conv => whnf)
          exact nx (fun z => absurd g1 (Int32.not_lt.mpr (hP.mp z).1))
      · conv => whnf
        rw [e4]
        refine ⟨vp_in_nI (by omega) (by decide), ?_⟩
        rw [show (nI (4 + p)).toNatClampNeg = 4 + p from nI_clamp (by omega)]
        conv => whnf
        rw [f3, e4]
        refine ⟨vp_in_nI (by omega) (by decide), ?_⟩
        rw [show (nI (4 + x1p p)).toNatClampNeg = 4 + x1p p from nI_clamp (by omega)]
        conv => whnf
        refine ⟨fun g2 => ?_, fun g2 => ?_⟩
        · skip
          repeat' ((conv => whnf); (first | ((with_reducible refine And.intro (fun z => ?_) (fun z => ?_)) <;> (try (first | exact absurd z (by first | assumption | decide) | exact absurd (by first | assumption | decide) z))) | fail))
          all_goals (conv => whnf)
          exact nx (fun z => absurd g2 (Int32.not_lt.mpr (hP.mp z).2))
        · skip
          repeat' ((conv => whnf); (first | ((with_reducible refine And.intro (fun z => ?_) (fun z => ?_)) <;> (try (first | exact absurd z (by first | assumption | decide) | exact absurd (by first | assumption | decide) z))) | fail))
          all_goals (conv => whnf)
          rw [f5]
          exact fin (hP.mpr ⟨Int32.not_lt.mp g1, Int32.not_lt.mp g2⟩)
  · have no : ¬ twC s a b n → K (some (.inl (-1))) (xP r2 r3 r4 hi s m py) := fun z => kI h0 (by unfold tuR; rw [if_neg z])
    conv => whnf
    refine ⟨s, a, rfl, rfl, rfl, ?_⟩
    conv => whnf
    refine ⟨fun hc => ?_, fun hc1 => ?_⟩
    · conv => whnf
      exact no (fun z => bp_0.mp hc z.1)
    conv => whnf
    refine ⟨s, b, rfl, rfl, rfl, ?_⟩
    conv => whnf
    refine ⟨fun hc => ?_, fun hc2 => ?_⟩
    · conv => whnf
      exact no (fun z => bp_0.mp hc z.2.1)
    conv => whnf
    refine ⟨fun hc => ?_, fun hc3 => ?_⟩
    · conv => whnf
      exact no (fun z => z.2.2.1 hc)
    conv => whnf
    refine ⟨fun hc4 => ?_, fun hc => ?_⟩
    rotate_left
    · conv => whnf
      exact no (fun z => bp_0.mp hc z.2.2.2)
    have hC : twC s a b n := ⟨bp_n hc1, bp_n hc2, hc3, bp_n hc4⟩
    have n3 : ¬ (tb (iT s) a ∧ tb (iT s) b) → K (some (.inl (-3))) (xP r2 r3 r4 hi s m py) := fun z => kI h0 (by unfold tuR; rw [if_pos hC, if_neg z])
    conv => whnf
    refine ⟨s, a, rfl, rfl, rfl, ?_⟩
    conv => whnf
    refine ⟨fun hc => ?_, fun hc5 => ?_⟩
    · conv => whnf
      exact n3 (fun z => bp_0.mp hc z.1)
    conv => whnf
    refine ⟨s, b, rfl, rfl, rfl, ?_⟩
    conv => whnf
    refine ⟨fun hc6 => ?_, fun hc => ?_⟩
    rotate_left
    · conv => whnf
      exact n3 (fun z => bp_0.mp hc z.2)
    conv => whnf
    exact ⟨10 + (4 - 0), 0, m, py, by decide, rfl, hC, ⟨bp_n hc5, bp_n hc6⟩, hM, all_0, rfl, rfl, rfl⟩
