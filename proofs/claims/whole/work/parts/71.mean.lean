/-! ===== mean ===== -/
noncomputable def hsN (h : PA) (who : Int32) : Nat → Nat
  | 0 => 0
  | j + 1 => hsN h who j + @ite _ (tb who (nI j)) (Classical.propDecidable _) (ix (h j)) 0
theorem hs_N {h : PA} {who : Int32} (hh : ∀ j, j < 7 → rng 100 (h j)) : ∀ j, j ≤ 7 → hsF h who j = nI (hsN h who j) ∧ hsN h who j ≤ 100 * j
  | 0, _ => ⟨rfl, Nat.le_refl _⟩
  | j + 1, hj => by
    obtain ⟨h1, h2⟩ := hs_N hh j (by omega)
    obtain ⟨a, ha, e⟩ := hh j (by omega)
    unfold hsF hsN
    rw [h1]
    by_cases hb : tb who (nI j)
    · rw [if_pos hb, if_pos hb, e, nI_add, show ix (nI a) = a from nI_clamp (by omega)]
      exact ⟨rfl, by omega⟩
    · rw [if_neg hb, if_neg hb, Nat.add_zero]
      refine ⟨?_, by omega⟩
      rw [show (0 : Int32) = nI 0 from rfl, nI_add, Nat.add_zero]
theorem hsN_0 (h : PA) : ∀ j, j ≤ 7 → hsN h 0 j = 0
  | 0, _ => rfl
  | j + 1, hj => by
    unfold hsN
    rw [hsN_0 h j (by omega), if_neg (tb_0 j (by omega))]
noncomputable def meF (s : InnS) (part : Int32) : Int64 := if 0 ≤ part ∧ part ≤ 1 then lN (pfN (hsN (iH s) (iT s) (ix (iG s))) (popc (ix (iT s))) part) else 1000000001
theorem part01 {p : Int32} (h : 0 ≤ p ∧ p ≤ 1) : p = 0 ∨ p = 1 := by
  obtain ⟨j, hj, e⟩ := in_rng (n := 1) (by decide) h
  rcases (show j = 0 ∨ j = 1 by omega) with z | z
  · exact Or.inl (by rw [e, z]; rfl)
  · exact Or.inr (by rw [e, z]; rfl)
theorem me_pos {s : InnS} {G : Nat} (hB : rng 128 (iT s)) (hG : G ≤ 7) (h : 0 < hsN (iH s) (iT s) G) : 0 < popc (ix (iT s)) := by
  refine Nat.pos_of_ne_zero (fun z => ?_)
  rw [pc_0 hB z, hsN_0 _ G hG] at h
  omega
def F_X5_mean : Fn := fun as w K => ∃ (r1 r2 r3 r4 r5 : sv) (hi : Int32) (s : InnS) (N : Nat) (part : Int32), as = [sR 0, sI part] ∧ w = x1W r1 r2 r3 r4 r5 hi s ∧ IV s N ∧ K (some (.inr (.inl (meF s part)))) w
def ctb_X5_mean : List (Nat × (List sv → List sc → (List sv → List sc → Prop) → Prop)) := [(3, cS none 3 F_X5_within), (10, cS none 1 F_X5_refusedLong), (25, cQ [1, 2, 3, 4, 5, 6, 7] (some 0) 2 F_X0_healthOf), (36, cS none 1 F_J6_bitCount_0f7a4), (41, cS none 3 F_X5_partOf)]
theorem cok_X5_mean : CallOK cX5_mean 2 (some .long) RX5 3 ctb_X5_mean := CallOK_cons (site_same (rnS (pX5_mean_ok 3 _ rfl) ct_X5_within kX5_within lRX5_129 (by decide))) (CallOK_cons (site_same (rnS (pX5_mean_ok 10 _ rfl) ct_X5_refusedLong kX5_refusedLong lRX5_231 (by decide))) (CallOK_cons (site_q [1, 2, 3, 4, 5, 6, 7] (by decide) (rnV (pX5_mean_ok 25 _ rfl) ct_X0_healthOf kX0_healthOf lRX5_186 (by decide))) (CallOK_cons (site_same (rnS (pX5_mean_ok 36 _ rfl) ct_J6_bitCount_0f7a4 kJ6_bitCount_0f7a4 lRX5_143 (by decide))) (CallOK_cons (site_same (rnS (pX5_mean_ok 41 _ rfl) ct_X5_partOf kX5_partOf lRX5_235 (by decide))) (CallOK_nil)))))
theorem ct_X5_mean : Ct yX5_mean cX5_mean 2 (some .long) 3 F_X5_mean := by
  intro l D σ cA sz as w K h
  obtain ⟨r1, r2, r3, r4, r5, hi, s, N, part, rfl, rfl, ⟨hZ, hG, hN, hN9, hB⟩, h⟩ := h
  obtain ⟨G, hG7, hGG⟩ := hG.2.1
  have eG : ix (iG s) = G := by rw [hGG]; exact nI_clamp (by omega)
  obtain ⟨e1, e2⟩ := hs_N (who := iT s) hG.2.2.2.2.2 G (by omega)
  refine metL (pr := lkB pX5_mean) (rk := 3) (ct := ctb_X5_mean) (fld := lkB flX5) (cst := lkB csX5) (cstL := lkB clX5) [] pX5_mean_ok kX5_mean.2.2.2.2.2.2.2 fdX5 cdX5 rto3 cok_X5_mean (Nat.le_of_ble_eq_true rfl) cut0 ?_ l D σ cA sz
  conv => whnf
  refine ⟨fun hc => ?_, fun hc => ?_⟩
  · have hc := bp_n hc
    conv => whnf
    refine ⟨s, iT s, G, rfl, rfl, hGG, hG7, rfl, ?_⟩
    rw [e1]
    conv => whnf
    refine ⟨hB, ?_⟩
    conv => whnf
    have hp7 : popc (ix (iT s)) ≤ 7 := pc_7 hB
    refine ⟨hsN (iH s) (iT s) G, popc (ix (iT s)), part, by rw [nI_l (by omega), show (pop (iT s)).toInt64 = lN (popc (ix (iT s))) from nI_l (by omega)], by omega, by omega, me_pos hB (by omega), part01 hc, ?_⟩
    conv => whnf
    exact kL h (by unfold meF; rw [if_pos hc, eG])
  · conv => whnf
    refine ⟨rfl, ?_⟩
    conv => whnf
    exact kL h (by unfold meF; rw [if_neg (bp_0.mp hc)])
def F_X6_mean : Fn := fun as w K => ∃ (s : InnS) (q : Pm) (t : Tm) (N : Nat) (part : Int32), as = [sR 0, sI part] ∧ w = modW s q t ∧ TZ t ∧ IV s N ∧ ∀ a b t', TZ t' → K (some (.inr (.inl (meF s part)))) (modW (snS s a b) q t')
def ctb_X6_mean : List (Nat × (List sv → List sc → (List sv → List sc → Prop) → Prop)) := [(9, cS none 3 F_X6_in), (40, cS none 2 F_X6_hasBit), (71, cS none 1 F_X6_onesOf), (76, cS none 3 F_X6_partOf)]
theorem cok_X6_mean : CallOK cX6_mean 5 (some .long) RX6 3 ctb_X6_mean := CallOK_cons (site_same (rnS (pX6_mean_ok 9 _ rfl) ct_X6_in kX6_in lRX6_81 (by decide))) (CallOK_cons (site_same (rnS (pX6_mean_ok 40 _ rfl) ct_X6_hasBit kX6_hasBit lRX6_105 (by decide))) (CallOK_cons (site_same (rnS (pX6_mean_ok 71 _ rfl) ct_X6_onesOf kX6_onesOf lRX6_228 (by decide))) (CallOK_cons (site_same (rnS (pX6_mean_ok 76 _ rfl) ct_X6_partOf kX6_partOf lRX6_301 (by decide))) (CallOK_nil))))
theorem ct_X6_mean : Ct yX6_mean cX6_mean 5 (some .long) 3 F_X6_mean := by
  intro l D σ cA sz as w K h
  obtain ⟨s, q, t, N, part, rfl, rfl, hT, ⟨hZ, hG, hN, hN9, hB⟩, h⟩ := h
  have h := h (iSn s) (iLn s) (tq0 t) hT
  obtain ⟨G, hG7, hGG⟩ := hG.2.1
  have eG : ix (iG s) = G := by rw [hGG]; exact nI_clamp (by omega)
  obtain ⟨e1, e2⟩ := hs_N (who := iT s) hG.2.2.2.2.2 G (by omega)
  refine metL (pr := lkB pX6_mean) (rk := 3) (ct := ctb_X6_mean) (fld := lkB flX6) (cst := lkB csX6) (cstL := lkB clX6) [(24, ([true, true, true, false, true], fun n lv st w => ∃ j, j ≤ G ∧ n = G - j ∧ (0 ≤ part ∧ part ≤ 1) ∧ lv = [some (sR 0), some (sI part), some (sL (lN (hsN (iH s) (iT s) j))), none, some (sI (nI j))] ∧ st = [] ∧ w = modW s q (tq0 t)))] pX6_mean_ok kX6_mean.2.2.2.2.2.2.2 fdX6 cdX6 rto3 cok_X6_mean (Nat.le_of_ble_eq_true rfl) ?_ ?_ l D σ cA sz
  · refine List.forall_mem_cons.mpr ⟨?_, cut0⟩
    rintro n lv st w ⟨j, hj, rfl, hc1, rfl, rfl, rfl⟩
    conv => whnf
    refine ⟨fun hc => ?_, fun hc => ?_⟩
    · rw [hGG] at hc
      obtain rfl := lp_ge hj (by omega) hc
      conv => whnf
      refine ⟨hB, ?_⟩
      conv => whnf
      have hp7 : popc (ix (iT s)) ≤ 7 := pc_7 hB
      refine ⟨hsN (iH s) (iT s) j, popc (ix (iT s)), part, by rw [show (pop (iT s)).toInt64 = lN (popc (ix (iT s))) from nI_l (by omega)], by omega, by omega, me_pos hB (by omega), part01 hc1, ?_⟩
      conv => whnf
      exact kL h (by unfold meF; rw [if_pos hc1, eG])
    · rw [hGG] at hc
      have hlt := lp_lt hj (by omega) hc
      obtain ⟨a, ha, ea⟩ := hG.2.2.2.2.2 j (by omega)
      have ej : (nI j).toNatClampNeg = j := nI_clamp (by omega)
      have hst : tb (iT s) (nI j) → hsN (iH s) (iT s) (j + 1) = hsN (iH s) (iT s) j + a := fun z => by
        show hsN (iH s) (iT s) j + _ = _
        rw [if_pos z, ea, show ix (nI a) = a from nI_clamp (by omega)]
      have hst0 : ¬ tb (iT s) (nI j) → hsN (iH s) (iT s) (j + 1) = hsN (iH s) (iT s) j + 0 := fun z => by
        show hsN (iH s) (iT s) j + _ = _
        rw [if_neg z]
      conv => whnf
      refine ⟨fun hb => ?_, fun hb => ?_⟩
      · conv => whnf
        exact ⟨G - (j + 1), by omega, j + 1, hlt, rfl, hc1, by rw [← nI_1, hst0 (bp_0.mp hb), ← lN_add]; rfl, rfl, rfl⟩
      · conv => whnf
        refine ⟨vp_in_nI (by omega) (by decide), ?_⟩
        rw [ej, ea]
        conv => whnf
        rw [nI_l (by omega)]
        exact ⟨G - (j + 1), by omega, j + 1, hlt, rfl, hc1, by rw [← nI_1, hst (bp_n hb), ← lN_add]; rfl, rfl, rfl⟩
  · conv => whnf
    refine ⟨fun hc => ?_, fun hc => ?_⟩
    · have hc := bp_n (fun z => hc ((in_ii 0 part 1).trans z))
      conv => whnf
      exact ⟨G, 0, Nat.zero_le _, rfl, hc, rfl, rfl, rfl⟩
    · have hc := bp_0.mp ((in_ii 0 part 1).symm.trans hc)
      conv => whnf
      exact kL h (by unfold meF; rw [if_neg hc])
