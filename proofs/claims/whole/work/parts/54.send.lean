/-! ===== send ===== -/
abbrev thS (s : InnS) (x : Int32) : InnS := (iK s, iF s, iW s, iL s, iH s, iP s, iG s, x, iN s, iS s, iA s, iSn s, iLn s)
theorem nights_G (s : InnS) : ∀ n, iG (nightsS n s) = iG s
  | 0 => rfl
  | n + 1 => (night_keep (s := nightsS n s) (mare := 0) (sil := 0)).2.1.trans (nights_G s n)
def mkB (g : Int32) : Int32 := jshl 1 g ^^^ (-1)
noncomputable def hbV (s : InnS) (x who : Int32) (n G : Nat) : Int32 := hsF (iH (nightsS n (thS s x))) (who &&& iT (nightsS n (thS s x))) G
noncomputable def seA (s : InnS) (n G g : Nat) : Int32 := hbV s (iT s) (iT s &&& mkB (nI g)) n G
noncomputable def seB (s : InnS) (n G g : Nat) : Int32 := hbV s (iT s &&& mkB (nI g)) (iT s &&& mkB (nI g)) n G
noncomputable def seF (s : InnS) (n G : Nat) : Nat → Int32 × Int32
  | 0 => (-4, -1)
  | g + 1 => @ite _ (tb (iT s) (nI g) ∧ seA s n G g < seB s n G g ∧ (seF s n G g).2 < seB s n G g) (Classical.propDecidable _) (nI g, seB s n G g) (seF s n G g)
noncomputable def seR (s : InnS) (n : Int32) : Int32 := if 0 ≤ n ∧ n ≤ 60 then (seF s (ix n) (ix (iG s)) (ix (iG s))).1 else -1
def F_X5_healthThen : Fn := fun as w K => ∃ (r2 r3 r4 r5 : sv) (hi : Int32) (s m : InnS) (N n G : Nat) (who x : Int32), as = [sR 0, sI who, sI x, sI (nI n)] ∧ w = x2W r2 r3 r4 r5 hi s m ∧ ZB s ∧ GS s ∧ iG s = nI G ∧ G < 8 ∧ iN s = nI N ∧ N + n < 90000 ∧ ZB m ∧ ∀ m', ZB m' → K (some (.inl (hbV s x who n G))) (x2W r2 r3 r4 r5 hi s m')
def ctb_X5_healthThen : List (Nat × (List sv → List sc → (List sv → List sc → Prop) → Prop)) := [(1, cS (some 3) 1 F_X5_inMind), (15, cG [8, 9, 10, 11, 12, 13, 14] (some 0) 2 F_X0_pass), (27, cG [8, 9, 10, 11, 12, 13, 14] (some 0) 2 F_X0_healthOf)]
theorem cok_X5_healthThen : CallOK cX5_healthThen 5 (some .int) RX5 6 ctb_X5_healthThen := CallOK_cons (site_same (rnV (pX5_healthThen_ok 1 _ rfl) ct_X5_inMind kX5_inMind lRX5_58 (by decide))) (CallOK_cons (site_gen [8, 9, 10, 11, 12, 13, 14] (by decide) (rnV (pX5_healthThen_ok 15 _ rfl) ct_X0_pass kX0_pass lRX5_136 (by decide))) (CallOK_cons (site_gen [8, 9, 10, 11, 12, 13, 14] (by decide) (rnV (pX5_healthThen_ok 27 _ rfl) ct_X0_healthOf kX0_healthOf lRX5_186 (by decide))) (CallOK_nil)))
theorem ct_X5_healthThen : Ct yX5_healthThen cX5_healthThen 5 (some .int) 6 F_X5_healthThen := by
  intro l D σ cA sz as w K h
  obtain ⟨r2, r3, r4, r5, hi, s, m, N, n, G, who, x, rfl, rfl, hZ, hG, hGG, hG8, hN, hN2, hM, h⟩ := h
  have hgt : GS (thS s x) := hG
  have hzt : ZB (thS s x) := hZ
  have hz := ZB_nights hzt hgt (show iN (thS s x) = nI N from hN) n (by omega)
  refine metL (pr := lkB pX5_healthThen) (rk := 1) (ct := ctb_X5_healthThen) (fld := lkB flX5) (cst := lkB csX5) (cstL := lkB clX5) [] pX5_healthThen_ok kX5_healthThen.2.2.2.2.2.2.2 fdX5 cdX5 rto1 cok_X5_healthThen (Nat.le_of_ble_eq_true rfl) cut0 ?_ l D σ cA sz
  conv => whnf
  refine ⟨r2, r3, r4, r5, hi, s, m, rfl, rfl, hZ, hM, ?_⟩
  conv => whnf
  refine ⟨thS s x, n, N, rfl, rfl, hgt, hN, hN2, ?_⟩
  conv => whnf
  refine ⟨nightsS n (thS s x), _, G, rfl, rfl, (nights_G (thS s x) n).trans hGG, hG8, ?_⟩
  conv => whnf
  exact h _ hz
theorem tb_mk {x y : Int32} {g o : Nat} (hg : g < 32) (ho : o < 32) : tb ((x &&& mkB (nI g)) &&& y) (nI o) ↔ (¬ o = g ∧ tb (x &&& y) (nI o)) := by
  rw [tb_bt _ ho, tb_bt _ ho, b_and, b_and, b_and, mkB, b_xor, bt_one hg ho, b_m1 o ho]
  by_cases e : g = o
  · subst e; simp
  · have e' : ¬ o = g := fun z => e z.symm
    simp [e, e']
theorem and_mk (x m : Int32) : (x &&& m) &&& m = x &&& m := by
  apply b_ext
  intro i _
  rw [b_and, b_and]
  cases bt x i <;> cases bt m i <;> rfl
def F_X6_healthBut : Fn := fun as w K => ∃ (s s0 : InnS) (q : Pm) (t : Tm) (N n G g : Nat), as = [sR 0, sI (nI g), sI (nI n)] ∧ w = modW s q t ∧ TZ t ∧ KP s0 t ∧ ZB s ∧ ZB s0 ∧ GS s ∧ iG s = nI G ∧ G < 8 ∧ g < 7 ∧ iN s = nI N ∧ N + n < 90000 ∧ ∀ a b t', SK t t' → KP s0 t' → K (some (.inl (hsF (iH (nightsS n s)) ((iT s &&& mkB (nI g)) &&& iT (nightsS n s)) G))) (modW (snS s0 a b) q t')
def ctb_X6_healthBut : List (Nat × (List sv → List sc → (List sv → List sc → Prop) → Prop)) := [(7, cS (some 4) 2 F_X6_goNights), (41, cS none 2 F_X6_hasBit), (68, cS (some 4) 1 F_X6_again)]
theorem cok_X6_healthBut : CallOK cX6_healthBut 6 (some .int) RX6 6 ctb_X6_healthBut := CallOK_cons (site_same (rnV (pX6_healthBut_ok 7 _ rfl) ct_X6_goNights kX6_goNights lRX6_168 (by decide))) (CallOK_cons (site_same (rnS (pX6_healthBut_ok 41 _ rfl) ct_X6_hasBit kX6_hasBit lRX6_105 (by decide))) (CallOK_cons (site_same (rnV (pX6_healthBut_ok 68 _ rfl) ct_X6_again kX6_again lRX6_196 (by decide))) (CallOK_nil)))
theorem ct_X6_healthBut : Ct yX6_healthBut cX6_healthBut 6 (some .int) 6 F_X6_healthBut := by
  intro l D σ cA sz as w K h
  obtain ⟨s, s0, q, t, N, n, G, g, rfl, rfl, hT, hk, hZ, hZ0, hGS, hG, hG8, hg, hN, hN2, h⟩ := h
  have hz := ZB_nights hZ hGS hN n (by omega)
  have hGu : iG (nightsS n s) = nI G := (nights_G s n).trans hG
  generalize hu : nightsS n s = u at h hz hGu
  refine metL (pr := lkB pX6_healthBut) (rk := 1) (ct := ctb_X6_healthBut) (fld := lkB flX6) (cst := lkB csX6) (cstL := lkB clX6) [(16, ([true, true, true, true, true, true], fun x lv st w => ∃ j, j ≤ G ∧ x = G - j ∧ lv = [some (sR 0), some (sI (nI g)), some (sI (nI n)), some (sI (iT s)), some (sI (hsF (iH u) ((iT s &&& mkB (nI g)) &&& iT u) j)), some (sI (nI j))] ∧ st = [] ∧ w = modW u q t))] pX6_healthBut_ok kX6_healthBut.2.2.2.2.2.2.2 fdX6 cdX6 rto1 cok_X6_healthBut (Nat.le_of_ble_eq_true rfl) ?_ ?_ l D σ cA sz
  · refine List.forall_mem_cons.mpr ⟨?_, cut0⟩
    rintro x lv st w ⟨j, hj, rfl, rfl, rfl, rfl⟩
    conv => whnf
    refine ⟨fun hc => ?_, fun hc => ?_⟩
    · rw [hGu] at hc
      obtain rfl := lp_ge hj (by omega) hc
      conv => whnf
      refine ⟨u, s0, q, t, rfl, rfl, hk, hz, hZ0, fun t2 hs2 hk2 => ?_⟩
      conv => whnf
      exact h (iSn u) (iLn u) t2 hs2 hk2
    · rw [hGu] at hc
      have hlt := lp_lt hj (by omega) hc
      have hv : vp_in (nI j) 7 := vp_in_nI (by omega) (by decide)
      have hm := tb_mk (x := iT s) (y := iT u) (g := g) (o := j) (by omega) (by omega)
      conv => whnf
      refine ⟨fun h1 => ?_, fun h1 => ?_⟩
      · have h1 := (nI_eq (by omega) (by omega)).mp h1
        conv => whnf
        exact ⟨G - (j + 1), by omega, j + 1, hlt, rfl, by rw [← nI_1 j, hsF, if_neg (fun z => (hm.mp z).1 h1)]; rfl, rfl, rfl⟩
      · have h1 : ¬ j = g := fun z => h1 (by rw [z])
        conv => whnf
        refine ⟨fun h2 => ?_, fun h2 => ?_⟩
        · conv => whnf
          exact ⟨G - (j + 1), by omega, j + 1, hlt, rfl, by rw [← nI_1 j, hsF, if_neg (fun z => bp_0.mp h2 (hm.mp z).2)]; rfl, rfl, rfl⟩
        · skip
          repeat' ((conv => whnf); (first | refine And.intro (by first | decide | with_reducible assumption) ?_ | with_reducible refine And.intro (fun hc => ?_) (fun hc => ?_) | with_reducible refine And.intro (fun hc => ?_) ?_ | fail))
          all_goals try (conv => whnf)
          exact ⟨G - (j + 1), by omega, j + 1, hlt, rfl, by rw [← nI_1 j, hsF, if_pos (hm.mpr ⟨h1, bp_n h2⟩), nI_clamp (n := j) (by omega)]; rfl, rfl, rfl⟩
  · conv => whnf
    refine ⟨s, q, t, n, N, rfl, rfl, hT, hGS, hN, hN2, ?_⟩
    rw [hu]
    conv => whnf
    exact ⟨G, 0, Nat.zero_le _, rfl, rfl, rfl, rfl⟩
def F_X5_send : Fn := fun as w K => ∃ (r2 r3 r4 r5 : sv) (hi : Int32) (s m : InnS) (N : Nat) (n : Int32), as = [sR 0, sI n] ∧ w = x2W r2 r3 r4 r5 hi s m ∧ IV s N ∧ ZB m ∧ ∀ m', ZB m' → K (some (.inl (seR s n))) (x2W r2 r3 r4 r5 hi s m')
def ctb_X5_send : List (Nat × (List sv → List sc → (List sv → List sc → Prop) → Prop)) := [(1, cS none 1 F_X5_isWhile), (35, cG [1, 2, 3, 4, 5, 6, 7] (some 0) 2 F_X0_isThere), (63, cS (some 3) 4 F_X5_healthThen), (87, cS (some 3) 4 F_X5_healthThen)]
theorem cok_X5_send : CallOK cX5_send 7 (some .int) RX5 7 ctb_X5_send := CallOK_cons (site_same (rnS (pX5_send_ok 1 _ rfl) ct_X5_isWhile kX5_isWhile lRX5_148 (by decide))) (CallOK_cons (site_gen [1, 2, 3, 4, 5, 6, 7] (by decide) (rnV (pX5_send_ok 35 _ rfl) ct_X0_isThere kX0_isThere lRX5_98 (by decide))) (CallOK_cons (site_same (rnV (pX5_send_ok 63 _ rfl) ct_X5_healthThen kX5_healthThen lRX5_183 (by decide))) (CallOK_cons (site_same (rnV (pX5_send_ok 87 _ rfl) ct_X5_healthThen kX5_healthThen lRX5_183 (by decide))) (CallOK_nil))))
theorem ct_X5_send : Ct yX5_send cX5_send 7 (some .int) 7 F_X5_send := by
  intro l D σ cA sz as w K h
  obtain ⟨r2, r3, r4, r5, hi, s, m, N, n, rfl, rfl, ⟨hZ, hG, hN, hN9, hB⟩, hM, h⟩ := h
  have h0 := h m hM
  obtain ⟨G, hG7, hGG⟩ := hG.2.1
  have eG : ix (iG s) = G := by rw [hGG]; exact nI_clamp (by omega)
  refine metL (pr := lkB pX5_send) (rk := 1) (ct := ctb_X5_send) (fld := lkB flX5) (cst := lkB csX5) (cstL := lkB clX5) [(17, ([true, true, true, true, true, false, false], fun x lv st w => ∃ (g : Nat) (m' : InnS), g ≤ G ∧ x = G - g ∧ (0 ≤ n ∧ n ≤ 60) ∧ ZB m' ∧ lv = [some (sR 0), some (sI n), some (sI (seF s (ix n) G g).2), some (sI (seF s (ix n) G g).1), some (sI (nI g)), none, none] ∧ st = [] ∧ w = x2W r2 r3 r4 r5 hi s m'))] pX5_send_ok kX5_send.2.2.2.2.2.2.2 fdX5 cdX5 rto1 cok_X5_send (Nat.le_of_ble_eq_true rfl) ?_ ?_ l D σ cA sz
  · refine List.forall_mem_cons.mpr ⟨?_, cut0⟩
    rintro x lv st w ⟨g, m', hg, rfl, hC, hM', rfl, rfl, rfl⟩
    obtain ⟨n', hn', en⟩ := in_rng (n := 60) (by decide) hC
    have eix : ix n = n' := by rw [en]; exact nI_clamp (by omega)
    have hr : seR s n = (seF s n' G G).1 := by
      unfold seR
      rw [if_pos hC, eix, eG]
    rw [eix]
    conv => whnf
    refine ⟨fun hc => ?_, fun hc => ?_⟩
    · rw [hGG] at hc
      obtain rfl := lp_ge hg (by omega) hc
      conv => whnf
      exact kI (h _ hM') hr
    · rw [hGG] at hc
      have hlt := lp_lt hg (by omega) hc
      have neg : ∀ m2, ZB m2 → ¬ (tb (iT s) (nI g) ∧ seA s n' G g < seB s n' G g ∧ (seF s n' G g).2 < seB s n' G g) → ∃ n_1, n_1 < G - g ∧ ∃ (g_1 : Nat) (m' : InnS), g_1 ≤ G ∧ n_1 = G - g_1 ∧ (0 ≤ n ∧ n ≤ 60) ∧ ZB m' ∧ [some (sR 0), some (sI n), some (sI (seF s n' G g).2), some (sI (seF s n' G g).1), some (sI (nI g + 1)), none, none] = [some (sR 0), some (sI n), some (sI (seF s n' G g_1).2), some (sI (seF s n' G g_1).1), some (sI (nI g_1)), none, none] ∧ ([] : List sv) = [] ∧ x2W r2 r3 r4 r5 hi s m2 = x2W r2 r3 r4 r5 hi s m' :=
        fun m2 hm2 hneg => ⟨G - (g + 1), by omega, g + 1, m2, hlt, rfl, hC, hm2, by rw [nI_1, seF, if_neg hneg], rfl, rfl⟩
      conv => whnf
      refine ⟨s, nI g, rfl, rfl, ?_⟩
      conv => whnf
      refine ⟨fun hb => ?_, fun hb => ?_⟩
      · have hb := bp_0.mp hb
        conv => whnf
        exact neg m' hM' (fun z => hb z.1)
      · have hb := bp_n hb
        conv => whnf
        refine ⟨r2, r3, r4, r5, hi, s, m', N, n', G, iT s &&& mkB (nI g), iT s &&& mkB (nI g), by rw [en]; rfl, rfl, hZ, hG, hGG, hG7, hN, by omega, hM', fun m2 hm2 => ?_⟩
        conv => whnf
        refine ⟨fun h1 => ?_, fun h1 => ?_⟩
        · conv => whnf
          exact neg m2 hm2 (fun z => absurd z.2.2 (Int32.not_lt.mpr h1))
        · conv => whnf
          refine ⟨r2, r3, r4, r5, hi, s, m2, N, n', G, iT s &&& mkB (nI g), iT s, by rw [en]; rfl, rfl, hZ, hG, hGG, hG7, hN, by omega, hm2, fun m3 hm3 => ?_⟩
          conv => whnf
          refine ⟨fun h2 => ?_, fun h2 => ?_⟩
          · conv => whnf
            exact neg m3 hm3 (fun z => absurd z.2.1 (Int32.not_lt.mpr h2))
          · conv => whnf
            exact ⟨G - (g + 1), by omega, g + 1, m3, hlt, rfl, hC, hm3, by rw [← nI_1, seF, if_pos ⟨hb, Int32.not_le.mp h2, Int32.not_le.mp h1⟩]; rfl, rfl, rfl⟩
  · conv => whnf
    refine ⟨fun hc1 => ?_, fun hc => ?_⟩
    rotate_left
    · conv => whnf
      exact kI h0 (by unfold seR; rw [if_neg (bp_0.mp hc)])
    conv => whnf
    exact ⟨G, 0, m, Nat.zero_le _, rfl, bp_n hc1, hM, rfl, rfl, rfl⟩
def F_X6_send : Fn := fun as w K => ∃ (s : InnS) (q : Pm) (t : Tm) (N : Nat) (n : Int32), as = [sR 0, sI n] ∧ w = modW s q t ∧ TZ t ∧ IV s N ∧ ∀ a b t', TZ t' → K (some (.inl (seR s n))) (modW (snS s a b) q t')
theorem hb_sn (s : InnS) (a b : Int32) (n G : Nat) (who : Int32) : hsF (iH (nightsS n (snS s a b))) (who &&& iT (nightsS n (snS s a b))) G = hsF (iH (nightsS n s)) (who &&& iT (nightsS n s)) G := by
  obtain ⟨a', b', e⟩ := nights_sn s a b n
  rw [e]
  rfl
def ctb_X6_send : List (Nat × (List sv → List sc → (List sv → List sc → Prop) → Prop)) := [(11, cS none 3 F_X6_in), (25, cS (some 4) 1 F_X6_think), (46, cS none 2 F_X6_hasBit), (56, cS (some 4) 3 F_X6_healthBut), (80, cS (some 4) 3 F_X6_healthBut)]
theorem cok_X6_send : CallOK cX6_send 7 (some .int) RX6 7 ctb_X6_send := CallOK_cons (site_same (rnS (pX6_send_ok 11 _ rfl) ct_X6_in kX6_in lRX6_81 (by decide))) (CallOK_cons (site_same (rnV (pX6_send_ok 25 _ rfl) ct_X6_think kX6_think lRX6_190 (by decide))) (CallOK_cons (site_same (rnS (pX6_send_ok 46 _ rfl) ct_X6_hasBit kX6_hasBit lRX6_105 (by decide))) (CallOK_cons (site_same (rnV (pX6_send_ok 56 _ rfl) ct_X6_healthBut kX6_healthBut lRX6_246 (by decide))) (CallOK_cons (site_same (rnV (pX6_send_ok 80 _ rfl) ct_X6_healthBut kX6_healthBut lRX6_246 (by decide))) (CallOK_nil)))))
theorem ct_X6_send : Ct yX6_send cX6_send 7 (some .int) 7 F_X6_send := by
  intro l D σ cA sz as w K h
  obtain ⟨s, q, t, N, n, rfl, rfl, hT, ⟨hZ, hG, hN, hN9, hB⟩, h⟩ := h
  have h0 := h (iSn s) (iLn s) (tq0 t) hT
  have hT0 : TZ (tq0 t) := hT
  obtain ⟨G, hG7, hGG⟩ := hG.2.1
  have eG : ix (iG s) = G := by rw [hGG]; exact nI_clamp (by omega)
  refine metL (pr := lkB pX6_send) (rk := 1) (ct := ctb_X6_send) (fld := lkB flX6) (cst := lkB csX6) (cstL := lkB clX6) [(31, ([true, true, true, true, true, false, false], fun x lv st w => ∃ (g : Nat) (a b : Int32) (t1 : Tm), g ≤ G ∧ x = G - g ∧ (0 ≤ n ∧ n ≤ 60) ∧ TZ t1 ∧ KP s t1 ∧ lv = [some (sR 0), some (sI n), some (sI (seF s (ix n) G g).1), some (sI (seF s (ix n) G g).2), some (sI (nI g)), none, none] ∧ st = [] ∧ w = modW (snS s a b) q t1))] pX6_send_ok kX6_send.2.2.2.2.2.2.2 fdX6 cdX6 rto1 cok_X6_send (Nat.le_of_ble_eq_true rfl) ?_ ?_ l D σ cA sz
  · refine List.forall_mem_cons.mpr ⟨?_, cut0⟩
    rintro x lv st w ⟨g, a, b, t1, hg, rfl, hC, hT1, hk1, rfl, rfl, rfl⟩
    obtain ⟨n', hn', en⟩ := in_rng (n := 60) (by decide) hC
    have eix : ix n = n' := by rw [en]; exact nI_clamp (by omega)
    have hr : seR s n = (seF s n' G G).1 := by
      unfold seR
      rw [if_pos hC, eix, eG]
    rw [eix]
    conv => whnf
    refine ⟨fun hc => ?_, fun hc => ?_⟩
    · rw [show iG (snS s a b) = nI G from hGG] at hc
      obtain rfl := lp_ge hg (by omega) hc
      conv => whnf
      exact kI (h a b t1 hT1) hr
    · rw [show iG (snS s a b) = nI G from hGG] at hc
      have hlt := lp_lt hg (by omega) hc
      have fin : ∀ (a2 b2 : Int32) (t2 : Tm), TZ t2 → KP s t2 → ∀ y z : Int32, y = (seF s n' G (g + 1)).1 → z = (seF s n' G (g + 1)).2 → ∃ n_1, n_1 < G - g ∧ ∃ (g_1 : Nat) (a b : Int32) (t1 : Tm), g_1 ≤ G ∧ n_1 = G - g_1 ∧ (0 ≤ n ∧ n ≤ 60) ∧ TZ t1 ∧ KP s t1 ∧ [some (sR 0), some (sI n), some (sI y), some (sI z), some (sI (nI g + 1)), none, none] = [some (sR 0), some (sI n), some (sI (seF s n' G g_1).1), some (sI (seF s n' G g_1).2), some (sI (nI g_1)), none, none] ∧ ([] : List sv) = [] ∧ modW (snS s a2 b2) q t2 = modW (snS s a b) q t1 :=
        fun a2 b2 t2 hT2 hk2 y z hy hz => ⟨G - (g + 1), by omega, g + 1, a2, b2, t2, hlt, rfl, hC, hT2, hk2, by rw [nI_1, hy, hz], rfl, rfl⟩
      have hF : seF s n' G (g + 1) = @ite _ (tb (iT s) (nI g) ∧ seA s n' G g < seB s n' G g ∧ (seF s n' G g).2 < seB s n' G g) (Classical.propDecidable _) (nI g, seB s n' G g) (seF s n' G g) := rfl
      conv => whnf
      refine ⟨fun hb => ?_, fun hb => ?_⟩
      · have hb : ¬ tb (iT s) (nI g) := bp_0.mp hb
        rw [if_neg (fun z => hb z.1)] at hF
        conv => whnf
        exact fin a b t1 hT1 hk1 _ _ (by rw [hF]) (by rw [hF])
      · have hb : tb (iT s) (nI g) := bp_n hb
        conv => whnf
        refine ⟨snS s a b, s, q, t1, N, n', G, g, by rw [en], rfl, hT1, hk1, hZ, hZ, hG, hGG, hG7, by omega, hN, by omega, fun a2 b2 t2 hs2 hk2 => ?_⟩
        rw [hb_sn]
        have eA : hsF (iH (nightsS n' s)) ((iT (snS s a b) &&& mkB (nI g)) &&& iT (nightsS n' s)) G = seA s n' G g := rfl
        rw [eA]
        have hT2 := hs2.tz hT1
        repeat' ((conv => whnf); (first | refine And.intro (by first | decide | with_reducible assumption) ?_ | with_reducible refine And.intro (fun hc => ?_) (fun hc => ?_) | with_reducible refine And.intro (fun hc => ?_) ?_ | fail))
        all_goals try (conv => whnf)
        refine ⟨snS (thS s (iT s &&& mkB (nI g))) a2 b2, s, q, t2, N, n', G, g, by rw [en], rfl, hT2, hk2, hZ, hZ, hG, hGG, hG7, by omega, hN, by omega, fun a3 b3 t3 hs3 hk3 => ?_⟩
        rw [hb_sn]
        have eB : hsF (iH (nightsS n' (thS s (iT s &&& mkB (nI g))))) ((iT (snS (thS s (iT s &&& mkB (nI g))) a2 b2) &&& mkB (nI g)) &&& iT (nightsS n' (thS s (iT s &&& mkB (nI g))))) G = seB s n' G g := by
          show hsF _ (((iT s &&& mkB (nI g)) &&& mkB (nI g)) &&& _) G = _
          rw [and_mk]
          rfl
        rw [eB]
        have hT3 := hs3.tz hT2
        have fin := fin a3 b3 t3 hT3 hk3
        by_cases p1 : seB s n' G g ≤ seA s n' G g
        · rw [if_neg (fun z => absurd z.2.1 (Int32.not_lt.mpr p1))] at hF
          conv => whnf
          refine ⟨fun _ => ?_, fun z => absurd p1 z⟩
          conv => whnf
          refine ⟨fun _ => ?_, fun z => absurd p1 z⟩
          conv => whnf
          exact fin _ _ (by rw [hF]) (by rw [hF])
        · by_cases p2 : seB s n' G g ≤ (seF s n' G g).2
          · rw [if_neg (fun z => absurd z.2.2 (Int32.not_lt.mpr p2))] at hF
            conv => whnf
            refine ⟨fun z => absurd z p1, fun _ => ?_⟩
            conv => whnf
            refine ⟨fun _ => ?_, fun z => absurd p2 z⟩
            conv => whnf
            refine ⟨fun z => absurd z p1, fun _ => ?_⟩
            conv => whnf
            refine ⟨fun _ => ?_, fun z => absurd p2 z⟩
            conv => whnf
            exact fin _ _ (by rw [hF]) (by rw [hF])
          · rw [if_pos ⟨hb, Int32.not_le.mp p1, Int32.not_le.mp p2⟩] at hF
            conv => whnf
            refine ⟨fun z => absurd z p1, fun _ => ?_⟩
            conv => whnf
            refine ⟨fun z => absurd z p2, fun _ => ?_⟩
            conv => whnf
            refine ⟨fun z => absurd z p1, fun _ => ?_⟩
            conv => whnf
            refine ⟨fun z => absurd z p2, fun _ => ?_⟩
            conv => whnf
            exact fin _ _ (by rw [hF]) (by rw [hF])
  · conv => whnf
    refine ⟨fun hc1 => ?_, fun hc => ?_⟩
    rotate_left
    · conv => whnf
      have hc := bp_0.mp ((in_ii 0 n 60).symm.trans hc)
      exact kI h0 (by unfold seR; rw [if_neg hc])
    conv => whnf
    refine ⟨s, q, tq0 t, rfl, rfl, fun t1 hs1 hk1 => ?_⟩
    conv => whnf
    exact ⟨G, 0, iSn s, iLn s, t1, Nat.zero_le _, rfl, bp_n (fun z => hc1 ((in_ii 0 n 60).trans z)), hs1.tz hT0, hk1, rfl, rfl, rfl⟩
