/-! ===== years ===== -/
def sdF (z : Int32) : Int32 := z * 1103515245 + 12345
def drF (z b : Int32) : Int32 := jrem ((z &&& 2147483647) / 65536) b
def sdN (z : Int32) : Nat → Int32
  | 0 => z
  | k + 1 => sdF (sdN z k)
def dwF (c : PA) (b z : Int32) : Nat → PA
  | 0 => c
  | k + 1 => upd (dwF c b z k) k (drF (sdN z (k + 1)) b)
theorem dr_rng (z : Int32) {b : Nat} (h0 : 0 < b) (hb : b < 1000) : rng b (drF z (nI b)) := by
  obtain ⟨j, hj, e⟩ := pk_andE z (m := 2147483647) 31 (by decide)
  unfold drF
  rw [e, show (65536 : Int32) = nI 65536 by decide, pk_div (by omega) (by decide) (by decide), jrem_nI (by omega) h0 (by omega)]
  exact ⟨_, Nat.mod_lt _ h0, rfl⟩
theorem dw_hi (c : PA) (b z : Int32) : ∀ k i, k ≤ i → dwF c b z k i = c i
  | 0, i, _ => rfl
  | k + 1, i, h => by
    show upd _ _ _ _ = _
    rw [pk_un (by omega)]
    exact dw_hi c b z k i (by omega)
theorem dw_rng {c : PA} {b : Nat} {z : Int32} {M : Nat} (h0 : 0 < b) (hb : b < 1000) (hM : b ≤ M) {L : Nat} (hc : ∀ i, i < L → rng M (c i)) : ∀ k i, i < L → rng M (dwF c (nI b) z k i)
  | 0, i, hi => hc i hi
  | k + 1, i, hi => by
    show rng M (upd _ _ _ _)
    by_cases e : i = k
    · rw [e, pk_us]
      obtain ⟨j, hj, x⟩ := dr_rng (sdN z (k + 1)) h0 hb
      exact ⟨j, by omega, x⟩
    · rw [pk_un e]
      exact dw_rng h0 hb hM hc k i hi
def F_X5_drawInto : Fn := fun as w K => ∃ (L c b : Nat) (f : PA) (z : Int32), as = [sR 0, sI (nI c), sI (nI b), sI z] ∧ w = [aI L f] ∧ c ≤ L ∧ L ≤ 100 ∧ 0 < b ∧ b < 100 ∧ K (some (.inl (sdN z c))) [aI L (dwF f (nI b) z c)]
def ctb_X5_drawInto : List (Nat × (List sv → List sc → (List sv → List sc → Prop) → Prop)) := []
theorem cok_X5_drawInto : CallOK cX5_drawInto 6 (some .int) RX5 1 ctb_X5_drawInto := CallOK_nil
theorem ct_X5_drawInto : Ct yX5_drawInto cX5_drawInto 6 (some .int) 1 F_X5_drawInto := by
  intro l D σ cA sz as w K h
  obtain ⟨L, c, b, f, z, rfl, rfl, hc, hL, hb0, hb, h⟩ := h
  refine metL (pr := lkB pX5_drawInto) (rk := 1) (ct := ctb_X5_drawInto) (fld := lkB flX5) (cst := lkB csX5) (cstL := lkB clX5) [(6, ([true, true, true, false, true, true], fun n lv st w => ∃ j, j ≤ c ∧ n = c - j ∧ lv = [some (sR 0), some (sI (nI c)), some (sI (nI b)), none, some (sI (sdN z j)), some (sI (nI j))] ∧ st = [] ∧ w = [aI L (dwF f (nI b) z j)]))] pX5_drawInto_ok kX5_drawInto.2.2.2.2.2 fdX5 cdX5 rto1 cok_X5_drawInto (Nat.le_of_ble_eq_true rfl) ?_ ?_ l D σ cA sz
  · refine List.forall_mem_cons.mpr ⟨?_, cut0⟩
    rintro n lv st w ⟨j, hj, rfl, rfl, rfl, rfl⟩
    conv => whnf
    refine ⟨fun h1 => ?_, fun h1 => ?_⟩
    · obtain rfl := lp_ge hj (by omega) h1
      conv => whnf
      exact h
    have hlt := lp_lt hj (by omega) h1
    conv => whnf
    refine ⟨fun h2 => ?_, fun h2 => ?_⟩
    · exact absurd (show nI L ≤ nI j from h2) (nI_ge (by omega) (by omega))
    have ej : (nI j).toNatClampNeg = j := nI_clamp (by omega)
    conv => whnf
    refine ⟨fun h3 => ?_, fun h3 => ?_⟩
    · exact absurd h3 (nI_nle hb0 (by omega))
    conv => whnf
    refine ⟨by decide, ?_⟩
    conv => whnf
    refine ⟨nI_ne0 hb0 (by omega), ?_⟩
    conv => whnf
    refine ⟨vp_in_nI (by omega) (by omega), ?_⟩
    rw [ej]
    conv => whnf
    exact ⟨c - (j + 1), by omega, j + 1, hlt, rfl, by rw [← nI_1]; rfl, rfl, rfl⟩
  · skip
    repeat' ((conv => whnf); (first | refine And.intro (by first | decide | with_reducible assumption) ?_ | with_reducible refine And.intro (fun hc => ?_) (fun hc => ?_) | with_reducible refine And.intro (fun hc => ?_) ?_ | fail))
    all_goals try (conv => whnf)
    exact ⟨c, 0, Nat.zero_le _, rfl, rfl, rfl, rfl⟩
abbrev ywS (s : InnS) (W P : PA) : InnS := (iK s, iF s, W, iL s, iH s, P, iG s, iT s, iN s, iS s, iA s, iSn s, iLn s)
def yrA (s : InnS) (G : Nat) (z : Int32) : InnS := ywS s (dwF (iW s) (nI 10) z G) (dwF (iP s) (nI 6) (sdN z G) 10)
noncomputable def yrV (s : InnS) (G : Nat) (what z : Int32) : Int32 := if what = 0 then iS (nightsS 12 (yrA s G z)) - iS s else pop (iT (nightsS 12 (yrA s G z)))
noncomputable def yrF (s : InnS) (G : Nat) (what z : Int32) : Nat → Int32 × Int32
  | 0 => (0, z)
  | k + 1 => ((yrF s G what z k).1 + yrV s G what (yrF s G what z k).2, sdN (sdN (yrF s G what z k).2 G) 10)
noncomputable def yrR (s : InnS) (n z what : Int32) : Int32 := if (1 ≤ n ∧ n ≤ 20) ∧ (0 ≤ what ∧ what ≤ 1) then (yrF s (ix (iG s)) what z (ix n)).1 else -1
theorem yr_keep {s : InnS} {G : Nat} {z : Int32} (hG7 : G ≤ 7) (hZ : ZB s) (hG : GS s) : ZB (yrA s G z) ∧ GS (yrA s G z) := by
  refine ⟨⟨fun j hj => ⟨(hZ.1 j hj).1, (hZ.1 j hj).2.1, ?_, (hZ.1 j hj).2.2.2⟩, fun k hk => ?_⟩, ⟨fun j hj => ⟨(hG.1 j hj).1, ?_, (hG.1 j hj).2.2⟩, hG.2.1, hG.2.2.1, hG.2.2.2.1, fun k hk => ?_, hG.2.2.2.2.2⟩⟩
  · show dwF _ _ _ _ _ = _
    rw [dw_hi _ _ _ _ _ (by omega)]; exact (hZ.1 j hj).2.2.1
  · show dwF _ _ _ _ _ = _
    rw [dw_hi _ _ _ _ _ hk]; exact hZ.2 k hk
  · exact dw_rng (b := 10) (M := 10) (L := 7) (by decide) (by decide) (by decide) (fun i hi => (hG.1 i hi).2.1) G j hj
  · exact dw_rng (b := 6) (M := 100) (L := 10) (by decide) (by decide) (by decide) hG.2.2.2.2.1 10 k hk
def F_X5_years : Fn := fun as w K => ∃ (r2 r3 r4 r5 : sv) (hi : Int32) (s m : InnS) (N : Nat) (n z what : Int32), as = [sR 0, sI n, sI z, sI what] ∧ w = x2W r2 r3 r4 r5 hi s m ∧ IV s N ∧ ZB m ∧ ∀ m', ZB m' → K (some (.inl (yrR s n z what))) (x2W r2 r3 r4 r5 hi s m')
def ctb_X5_years : List (Nat × (List sv → List sc → (List sv → List sc → Prop) → Prop)) := [(4, cS none 3 F_X5_within), (13, cS none 3 F_X5_within), (37, cS (some 3) 1 F_X5_inMind), (56, cG [11] none 4 F_X5_drawInto), (72, cG [14] none 4 F_X5_drawInto), (81, cG [8, 9, 10, 11, 12, 13, 14] (some 0) 2 F_X0_pass), (111, cS none 1 F_J6_bitCount_0f7a4)]
theorem cok_X5_years : CallOK cX5_years 8 (some .int) RX5 6 ctb_X5_years := CallOK_cons (site_same (rnS (pX5_years_ok 4 _ rfl) ct_X5_within kX5_within lRX5_129 (by decide))) (CallOK_cons (site_same (rnS (pX5_years_ok 13 _ rfl) ct_X5_within kX5_within lRX5_129 (by decide))) (CallOK_cons (site_same (rnV (pX5_years_ok 37 _ rfl) ct_X5_inMind kX5_inMind lRX5_58 (by decide))) (CallOK_cons (site_gen [11] (by decide) (rnS (pX5_years_ok 56 _ rfl) ct_X5_drawInto kX5_drawInto lRX5_239 (by decide))) (CallOK_cons (site_gen [14] (by decide) (rnS (pX5_years_ok 72 _ rfl) ct_X5_drawInto kX5_drawInto lRX5_239 (by decide))) (CallOK_cons (site_gen [8, 9, 10, 11, 12, 13, 14] (by decide) (rnV (pX5_years_ok 81 _ rfl) ct_X0_pass kX0_pass lRX5_136 (by decide))) (CallOK_cons (site_same (rnS (pX5_years_ok 111 _ rfl) ct_J6_bitCount_0f7a4 kJ6_bitCount_0f7a4 lRX5_143 (by decide))) (CallOK_nil)))))))
theorem ct_X5_years : Ct yX5_years cX5_years 8 (some .int) 6 F_X5_years := by
  intro l D σ cA sz as w K h
  obtain ⟨r2, r3, r4, r5, hi, s, m, N, n, z, what, rfl, rfl, ⟨hZ, hG, hN, hN9, hB⟩, hM, h⟩ := h
  have h0 := h m hM
  obtain ⟨G, hG7, hGG⟩ := hG.2.1
  have eG : ix (iG s) = G := by rw [hGG]; exact nI_clamp (by omega)
  refine metL (pr := lkB pX5_years) (rk := 1) (ct := ctb_X5_years) (fld := lkB flX5) (cst := lkB csX5) (cstL := lkB clX5) [(30, ([true, true, false, true, true, true, true], fun x lv st w => ∃ (k n' : Nat) (mi : InnS), n = nI n' ∧ n' ≤ 20 ∧ k ≤ n' ∧ x = 10 * (n' - k) ∧ ((1 ≤ n ∧ n ≤ 20) ∧ (0 ≤ what ∧ what ≤ 1)) ∧ ZB mi ∧ lv = [some (sR 0), some (sI (nI n')), none, some (sI what), some (sI (yrF s G what z k).2), some (sI (yrF s G what z k).1), some (sI (nI k))] ∧ st = [] ∧ w = x2W r2 r3 r4 r5 hi s mi)), (61, ([true, true, false, true, true, true, true, true], fun x lv st w => ∃ (k n' : Nat), n = nI n' ∧ n' ≤ 20 ∧ k < n' ∧ x = 10 * (n' - (k + 1)) + 8 ∧ ((1 ≤ n ∧ n ≤ 20) ∧ (0 ≤ what ∧ what ≤ 1)) ∧ lv = [some (sR 0), some (sI (nI n')), none, some (sI what), some (sI (sdN (yrF s G what z k).2 G)), some (sI (yrF s G what z k).1), some (sI (nI k)), some (sR 8)] ∧ st = [] ∧ w = x2W r2 r3 r4 r5 hi s (ywS s (dwF (iW s) (nI 10) (yrF s G what z k).2 G) (iP s)))), (77, ([true, true, false, true, true, true, true, true], fun x lv st w => ∃ (k n' : Nat), n = nI n' ∧ n' ≤ 20 ∧ k < n' ∧ x = 10 * (n' - (k + 1)) + 7 ∧ ((1 ≤ n ∧ n ≤ 20) ∧ (0 ≤ what ∧ what ≤ 1)) ∧ lv = [some (sR 0), some (sI (nI n')), none, some (sI what), some (sI (yrF s G what z (k + 1)).2), some (sI (yrF s G what z k).1), some (sI (nI k)), some (sR 8)] ∧ st = [] ∧ w = x2W r2 r3 r4 r5 hi s (yrA s G (yrF s G what z k).2)))] pX5_years_ok kX5_years.2.2.2.2.2.2.2 fdX5 cdX5 rto1 cok_X5_years (Nat.le_of_ble_eq_true rfl) ?_ ?_ l D σ cA sz
  · refine List.forall_mem_cons.mpr ⟨?_, List.forall_mem_cons.mpr ⟨?_, List.forall_mem_cons.mpr ⟨?_, cut0⟩⟩⟩
    · rintro x lv st w ⟨k, n', mi, en, hn, hk, rfl, hC, hMi, rfl, rfl, rfl⟩
      conv => whnf
      refine ⟨fun hc => ?_, fun hc => ?_⟩
      · have ek := lp_ge hk (by omega) hc
        conv => whnf
        refine kI (h _ hMi) ?_
        unfold yrR
        rw [if_pos hC, eG, en, show ix (nI n') = n' from nI_clamp (by omega), ek]
      have hlt := lp_lt hk (by omega) hc
      conv => whnf
      refine ⟨r2, r3, r4, r5, hi, s, mi, rfl, rfl, hZ, hMi, ?_⟩
      conv => whnf
      refine ⟨7, G, 10, iW s, (yrF s G what z k).2, by rw [hGG]; rfl, rfl, by omega, by decide, by decide, by decide, ?_⟩
      conv => whnf
      exact ⟨10 * (n' - (k + 1)) + 8, by omega, k, n', en, hn, hlt, rfl, hC, rfl, rfl, rfl⟩
    · rintro x lv st w ⟨k, n', en, hn, hk, rfl, hC, rfl, rfl, rfl⟩
      conv => whnf
      refine ⟨10, 10, 6, iP s, sdN (yrF s G what z k).2 G, rfl, rfl, by decide, by decide, by decide, by decide, ?_⟩
      conv => whnf
      exact ⟨10 * (n' - (k + 1)) + 7, by omega, k, n', en, hn, hk, rfl, hC, rfl, rfl, rfl⟩
    · rintro x lv st w ⟨k, n', en, hn, hk, rfl, hC, rfl, rfl, rfl⟩
      obtain ⟨k1, k2⟩ := yr_keep (z := (yrF s G what z k).2) (show G ≤ 7 by omega) hZ hG
      have k3 : iN (yrA s G (yrF s G what z k).2) = nI N := hN
      have k4 := ZB_nights k1 k2 k3 12 (by omega)
      have k5 : rng 128 (iT (nightsS 12 (yrA s G (yrF s G what z k).2))) := TB_nights (s := yrA s G (yrF s G what z k).2) hB 12
      have eV : what = 0 → (yrF s G what z (k + 1)).1 = (yrF s G what z k).1 + (iS (nightsS 12 (yrA s G (yrF s G what z k).2)) - iS s) := fun y => by
        show _ + yrV _ _ _ _ = _
        unfold yrV
        rw [if_pos y]
      have eV' : ¬ what = 0 → (yrF s G what z (k + 1)).1 = (yrF s G what z k).1 + pop (iT (nightsS 12 (yrA s G (yrF s G what z k).2))) := fun y => by
        show _ + yrV _ _ _ _ = _
        unfold yrV
        rw [if_neg y]
      generalize yrA s G (yrF s G what z k).2 = ya at k1 k2 k3 k4 k5 eV eV' ⊢
      conv => whnf
      refine ⟨ya, 12, N, rfl, rfl, k2, k3, by omega, ?_⟩
      conv => whnf
      refine ⟨fun hw => ?_, fun hw => ?_⟩
      · conv => whnf
        refine ⟨k5, ?_⟩
        conv => whnf
        exact ⟨10 * (n' - (k + 1)), by omega, k + 1, n', nightsS 12 ya, en, hn, hk, rfl, hC, k4, by rw [← nI_1, eV' hw]; rfl, rfl, rfl⟩
      · conv => whnf
        exact ⟨10 * (n' - (k + 1)), by omega, k + 1, n', nightsS 12 ya, en, hn, hk, rfl, hC, k4, by rw [← nI_1, eV hw]; rfl, rfl, rfl⟩
  · have no : ¬ ((1 ≤ n ∧ n ≤ 20) ∧ (0 ≤ what ∧ what ≤ 1)) → K (some (.inl (-1))) (x2W r2 r3 r4 r5 hi s m) := fun y => kI h0 (by unfold yrR; rw [if_neg y])
    conv => whnf
    refine ⟨fun hc => ?_, fun hc1 => ?_⟩
    · conv => whnf
      exact no (fun y => bp_0.mp hc y.1)
    conv => whnf
    refine ⟨fun hc2 => ?_, fun hc => ?_⟩
    rotate_left
    · conv => whnf
      exact no (fun y => bp_0.mp hc y.2)
    have hC := And.intro (bp_n hc1) (bp_n hc2)
    obtain ⟨n', hn1, hn, en⟩ := n20 hC.1
    conv => whnf
    exact ⟨10 * (n' - 0), 0, n', m, en, hn, Nat.zero_le _, rfl, hC, hM, by rw [en]; rfl, rfl, rfl⟩
