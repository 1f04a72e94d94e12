/-! ===== leaves, the reference ===== -/
def F_X6_leavesIn : Fn := fun as w K => ∃ (s : InnS) (q : Pm) (t : Tm) (N : Nat) (g : Int32), as = [sR 0, sI g] ∧ w = modW s q t ∧ TZ t ∧ IV s N ∧ ∀ a b t', TZ t' → K (some (.inl (nI (gone s g)))) (modW (snS s a b) q t')
def ctb_X6_leavesIn : List (Nat × (List sv → List sc → (List sv → List sc → Prop) → Prop)) := [(4, cS (some 4) 1 F_X6_think), (26, cS none 2 F_X6_hasBit), (40, cS (some 4) 1 F_X6_nightOn), (50, cS (some 4) 1 F_X6_again)]
theorem cok_X6_leavesIn : CallOK cX6_leavesIn 4 (some .int) RX6 5 ctb_X6_leavesIn := CallOK_cons (site_same (rnV (pX6_leavesIn_ok 4 _ rfl) ct_X6_think kX6_think lRX6_190 (by decide))) (CallOK_cons (site_same (rnS (pX6_leavesIn_ok 26 _ rfl) ct_X6_hasBit kX6_hasBit lRX6_105 (by decide))) (CallOK_cons (site_same (rnV (pX6_leavesIn_ok 40 _ rfl) ct_X6_nightOn kX6_nightOn lRX6_132 (by decide))) (CallOK_cons (site_same (rnV (pX6_leavesIn_ok 50 _ rfl) ct_X6_again kX6_again lRX6_196 (by decide))) (CallOK_nil))))
theorem ct_X6_leavesIn : Ct yX6_leavesIn cX6_leavesIn 4 (some .int) 5 F_X6_leavesIn := by
  intro l D σ cA sz as w K h
  obtain ⟨s, q, t, N, g, rfl, rfl, hT0, ⟨hZ, hG, hN, hN9, hB⟩, h⟩ := h
  refine metL (pr := lkB pX6_leavesIn) (rk := 1) (ct := ctb_X6_leavesIn) (fld := lkB flX6) (cst := lkB csX6) (cstL := lkB clX6) [(9, ([true, true, true, true], fun n lv st w => ∃ (j f : Nat) (t1 : Tm), j ≤ 61 ∧ n = 61 - j ∧ SK t t1 ∧ KP s t1 ∧ ((f = 61 ∧ ∀ i, i < j → ¬ ¬ tb (iT (nightsS i s)) g) ∨ (f < 61 ∧ f = gone s g)) ∧ lv = [some (sR 0), some (sI g), some (sI (nI f)), some (sI (nI j))] ∧ st = [] ∧ w = modW (nightsS j s) q t1))] pX6_leavesIn_ok kX6_leavesIn.2.2.2.2.2.2.2 fdX6 cdX6 rto1 cok_X6_leavesIn (Nat.le_of_ble_eq_true rfl) ?_ ?_ l D σ cA sz
  · refine List.forall_mem_cons.mpr ⟨?_, cut0⟩
    rintro n lv st w ⟨j, f, t1, hj, rfl, hs1, hk1, hf, rfl, rfl, rfl⟩
    have hz := ZB_nights hZ hG hN j (by omega)
    obtain ⟨g1, g2⟩ := nights_keep hG hN j (by omega)
    have hT1 := hs1.tz hT0
    have hsuc : nightsS (j + 1) s = nightS 0 0 (nightsS j s) := rfl
    have hf61 : f ≤ 61 := by rcases hf with e | e <;> omega
    conv => whnf
    refine ⟨fun hc => ?_, fun hc => ?_⟩
    · have hj : j = 61 := by
        rcases Nat.lt_or_ge j 61 with q | q
        · exact absurd (show nI 60 < nI j from hc) (nI_nlt (by omega) (by decide))
        · omega
      have hr : gone s g = f := by
        rcases hf with ⟨e, hall⟩ | e
        · rw [hj] at hall
          rw [e]
          exact fst_none hall
        · exact e.2.symm
      rw [hr] at h
      conv => whnf
      refine ⟨nightsS j s, s, q, t1, rfl, rfl, hk1, hz, hZ, fun t2 hs2 hk2 => ?_⟩
      conv => whnf
      exact h (iSn (nightsS j s)) (iLn (nightsS j s)) t2 (hs2.tz hT1)
    · have hlt : j < 61 := by
        rcases Nat.lt_or_ge j 61 with q | q
        · exact q
        · exact absurd (show nI 60 < nI j from nI_lt (by omega) (by omega)) hc
      conv => whnf
      refine ⟨fun h1 => ?_, fun h1 => ?_⟩
      rotate_left
      · have h1 : f = 61 := (nI_eq (by omega) (by decide)).mp (show nI f = nI 61 from h1)
        have hall : ∀ i, i < j → ¬ ¬ tb (iT (nightsS i s)) g := by
          rcases hf with ⟨-, e⟩ | e
          · exact e
          · omega
        conv => whnf
        refine ⟨fun h2 => ?_, fun h2 => ?_⟩
        · have h2 := bp_0.mp h2
          conv => whnf
          refine ⟨nightsS j s, q, t1, N + j, rfl, rfl, g1, g2, by omega, ?_⟩
          rw [t0_w _ _ hT1, hT1.1, hT1.2, ← hsuc]
          conv => whnf
          exact ⟨61 - (j + 1), by omega, j + 1, j, t1, hlt, rfl, hs1, hk1, Or.inr ⟨hlt, (fst_some h2 hall hlt).symm⟩, by rw [← nI_1]; rfl, rfl, rfl⟩
        · have h2 := bp_n h2
          conv => whnf
          refine ⟨nightsS j s, q, t1, N + j, rfl, rfl, g1, g2, by omega, ?_⟩
          rw [t0_w _ _ hT1, hT1.1, hT1.2, ← hsuc]
          conv => whnf
          exact ⟨61 - (j + 1), by omega, j + 1, 61, t1, hlt, rfl, hs1, hk1, Or.inl ⟨rfl, lt_s hall (fun z => z h2)⟩, by rw [← nI_1 j]; rfl, rfl, rfl⟩
      · have h1 : ¬ f = 61 := fun z => h1 (by rw [z]; rfl)
        have hr : gone s g = f := by
          rcases hf with ⟨e, -⟩ | e
          · exact absurd e h1
          · exact e.2.symm
        rw [hr] at h
        conv => whnf
        refine ⟨nightsS j s, s, q, t1, rfl, rfl, hk1, hz, hZ, fun t2 hs2 hk2 => ?_⟩
        conv => whnf
        exact h (iSn (nightsS j s)) (iLn (nightsS j s)) t2 (hs2.tz hT1)
  · skip
    repeat' ((conv => whnf); (first | refine And.intro (by first | decide | with_reducible assumption) ?_ | with_reducible refine And.intro (fun hc => ?_) (fun hc => ?_) | with_reducible refine And.intro (fun hc => ?_) ?_ | fail))
    all_goals try (conv => whnf)
    refine ⟨s, q, t, rfl, rfl, fun t1 hs1 hk1 => ?_⟩
    conv => whnf
    exact ⟨61, 0, 61, t1, by decide, rfl, hs1, hk1, Or.inl ⟨rfl, lt_0⟩, rfl, rfl, rfl⟩
theorem gone_sn (s : InnS) (a b g : Int32) : gone (snS s a b) g = gone s g := by
  have e : (fun n => ¬ tb (iT (nightsS n (snS s a b))) g) = fun n => ¬ tb (iT (nightsS n s)) g := by
    funext n
    obtain ⟨a', b', e⟩ := nights_sn s a b n
    rw [e]
    rfl
  unfold gone
  rw [e]
theorem fsA_gone (s : InnS) (g : Int32) : fsA (fun n => ¬ tb (iT (nightsS n s)) g) = if nI (gone s g) = 61 then -4 else nI (gone s g) := by
  have h := fst_le (fun n => ¬ tb (iT (nightsS n s)) g) 61
  unfold fsA gone at *
  by_cases e : fst (fun n => ¬ tb (iT (nightsS n s)) g) 61 = 61
  · rw [if_pos e, e]; rfl
  · rw [if_neg e, if_neg (show ¬ nI (fst (fun n => ¬ tb (iT (nightsS n s)) g) 61) = 61 from fun z => e ((nI_eq (by omega) (by decide)).mp (show nI _ = nI 61 from z)))]
def F_X6_leaves : Fn := fun as w K => ∃ (s : InnS) (q : Pm) (t : Tm) (N : Nat) (g : Int32), as = [sR 0, sI g] ∧ w = modW s q t ∧ TZ t ∧ IV s N ∧ ∀ a b t', TZ t' → K (some (.inl (lvR s g))) (modW (snS s a b) q t')
theorem lt_m1 {g : Int32} (h1 : -1 ≤ g) (h2 : g < 0) : g = -1 := by
  rw [i32_le] at h1
  rw [i32_lt] at h2
  rw [i32_eq]
  have e1 : (-1 : Int32).toInt = -1 := rfl
  have e0 : (0 : Int32).toInt = 0 := rfl
  rw [e1] at h1 ⊢
  rw [e0] at h2
  omega
theorem m1_le {G : Nat} (hG : G < 8) : (-1 : Int32) ≤ nI G - 1 := (by decide : ∀ G : Fin 8, (-1 : Int32) ≤ nI G.val - 1) ⟨G, hG⟩
theorem ge0_ne {g : Int32} (h : ¬ g < 0) : ¬ g = -1 := fun e => h (by rw [e]; decide)
def ctb_X6_leaves : List (Nat × (List sv → List sc → (List sv → List sc → Prop) → Prop)) := [(17, cS none 3 F_X6_in), (31, cS (some 4) 2 F_X6_leavesIn), (72, cS none 2 F_X6_hasBit), (81, cS (some 4) 2 F_X6_leavesIn)]
theorem cok_X6_leaves : CallOK cX6_leaves 6 (some .int) RX6 6 ctb_X6_leaves := CallOK_cons (site_same (rnS (pX6_leaves_ok 17 _ rfl) ct_X6_in kX6_in lRX6_81 (by decide))) (CallOK_cons (site_same (rnV (pX6_leaves_ok 31 _ rfl) ct_X6_leavesIn kX6_leavesIn lRX6_235 (by decide))) (CallOK_cons (site_same (rnS (pX6_leaves_ok 72 _ rfl) ct_X6_hasBit kX6_hasBit lRX6_105 (by decide))) (CallOK_cons (site_same (rnV (pX6_leaves_ok 81 _ rfl) ct_X6_leavesIn kX6_leavesIn lRX6_235 (by decide))) (CallOK_nil))))
theorem ct_X6_leaves : Ct yX6_leaves cX6_leaves 6 (some .int) 6 F_X6_leaves := by
  intro l D σ cA sz as w K h
  obtain ⟨s, q, t, N, g, rfl, rfl, hT, hIV, h⟩ := h
  have hIV' := hIV
  obtain ⟨hZ, hG, hN, hN9, hB⟩ := hIV'
  have h0 := h (iSn s) (iLn s) (tq0 t) hT
  have hT0 : TZ (tq0 t) := hT
  obtain ⟨G, hG7, hGG⟩ := hG.2.1
  have eG : ix (iG s) = G := by rw [hGG]; exact nI_clamp (by omega)
  refine metL (pr := lkB pX6_leaves) (rk := 1) (ct := ctb_X6_leaves) (fld := lkB flX6) (cst := lkB csX6) (cstL := lkB clX6) [(57, ([true, true, true, true, true, false], fun n lv st w => ∃ (o : Nat) (a b : Int32) (t1 : Tm), o ≤ G ∧ n = G - o ∧ g = -1 ∧ TZ t1 ∧ lv = [some (sR 0), some (sI g), some (sI (lvF s o).1), some (sI (nI (lvF s o).2)), some (sI (nI o)), none] ∧ st = [] ∧ w = modW (snS s a b) q t1))] pX6_leaves_ok kX6_leaves.2.2.2.2.2.2.2 fdX6 cdX6 rto1 cok_X6_leaves (Nat.le_of_ble_eq_true rfl) ?_ ?_ l D σ cA sz
  · refine List.forall_mem_cons.mpr ⟨?_, cut0⟩
    rintro n lv st w ⟨o, a, b, t1, ho, rfl, hg, hT1, rfl, rfl, rfl⟩
    have hle : (lvF s o).2 ≤ 61 := (lv_inv s o).1
    have hle2 := lvN_le s o
    have fin : ∀ (x : Int32) (a' b' : Int32) (t2 : Tm), o < G → TZ t2 → x = nI (lvN s o) → ∃ n', n' < G - o ∧ ∃ (o' : Nat) (a b : Int32) (t1 : Tm), o' ≤ G ∧ n' = G - o' ∧ g = -1 ∧ TZ t1 ∧ [some (sR 0), some (sI g), some (sI (if x < nI (lvF s o).2 then nI o else (lvF s o).1)), some (sI (if x < nI (lvF s o).2 then x else nI (lvF s o).2)), some (sI (nI o + 1)), none] = [some (sR 0), some (sI g), some (sI (lvF s o').1), some (sI (nI (lvF s o').2)), some (sI (nI o')), none] ∧ ([] : List sv) = [] ∧ modW (snS s a' b') q t2 = modW (snS s a b) q t1 := by
      intro x a' b' t2 hlt hT2 hx
      refine ⟨G - (o + 1), by omega, o + 1, a', b', t2, hlt, rfl, hg, hT2, ?_, rfl, rfl⟩
      rw [hx, nI_1, lvF]
      by_cases hc : lvN s o < (lvF s o).2
      · rw [if_pos (nI_lt hc (by omega)), if_pos (nI_lt hc (by omega)), if_pos hc]
      · rw [if_neg (nI_nlt (by omega) (by omega)), if_neg (nI_nlt (by omega) (by omega)), if_neg hc]
    generalize hF : lvF s o = F at hle fin ⊢
    conv => whnf
    refine ⟨fun hc => ?_, fun hc => ?_⟩
    · rw [show iG (snS s a b) = nI G from hGG] at hc
      obtain rfl := lp_ge ho (by omega) hc
      conv => whnf
      exact kI (h a b t1 hT1) (by rw [lvR, if_pos hg, eG, hF])
    · rw [show iG (snS s a b) = nI G from hGG] at hc
      have hlt := lp_lt ho (by omega) hc
      conv => whnf
      refine ⟨fun hb => ?_, fun hb => ?_⟩
      · have hx : (61 : Int32) = nI (lvN s o) := by unfold lvN; rw [if_neg (show ¬ tb (iT s) (nI o) from bp_0.mp hb)]; rfl
        have fin := fin 61 a b t1 hlt hT1 hx
        conv => whnf
        refine ⟨fun h1 => ?_, fun h1 => ?_⟩
        · rw [if_neg (Int32.not_lt.mpr h1), if_neg (Int32.not_lt.mpr h1)] at fin
          conv => whnf
          refine ⟨fun _ => ?_, fun z => absurd h1 z⟩
          conv => whnf
          exact fin
        · rw [if_pos (Int32.not_le.mp h1), if_pos (Int32.not_le.mp h1)] at fin
          conv => whnf
          refine ⟨fun z => absurd z h1, fun _ => ?_⟩
          conv => whnf
          exact fin
      · have hb : tb (iT s) (nI o) := bp_n hb
        have hx : nI (gone s (nI o)) = nI (lvN s o) := by unfold lvN; rw [if_pos hb]
        conv => whnf
        refine ⟨snS s a b, q, t1, N, nI o, rfl, rfl, hT1, hIV, fun a2 b2 t2 hT2 => ?_⟩
        rw [gone_sn]
        have fin := fin _ a2 b2 t2 hlt hT2 hx
        conv => whnf
        refine ⟨fun h1 => ?_, fun h1 => ?_⟩
        · rw [if_neg (Int32.not_lt.mpr h1), if_neg (Int32.not_lt.mpr h1)] at fin
          conv => whnf
          refine ⟨fun _ => ?_, fun z => absurd h1 z⟩
          conv => whnf
          exact fin
        · rw [if_pos (Int32.not_le.mp h1), if_pos (Int32.not_le.mp h1)] at fin
          conv => whnf
          refine ⟨fun z => absurd z h1, fun _ => ?_⟩
          conv => whnf
          exact fin
  · conv => whnf
    refine ⟨fun hc1 => ?_, fun hc => ?_⟩
    rotate_left
    · conv => whnf
      have hc := bp_0.mp ((in_ii (-1) g (iG s - 1)).symm.trans hc)
      exact kI h0 (by
        rw [lvR, if_neg (fun z => hc ⟨by rw [z]; decide, by rw [z, hGG]; exact m1_le hG7⟩), if_neg (fun z => hc ⟨Int32.le_trans (by decide) z.1, z.2⟩)])
    have c1 := bp_n (fun z => hc1 ((in_ii (-1) g (iG s - 1)).trans z))
    conv => whnf
    refine ⟨fun hc => ?_, fun hc => ?_⟩
    · skip
      repeat' ((conv => whnf); (first | refine And.intro (by first | decide | with_reducible assumption) ?_ | with_reducible refine And.intro (fun hc => ?_) (fun hc => ?_) | with_reducible refine And.intro (fun hc => ?_) ?_ | fail))
      all_goals try (conv => whnf)
      exact ⟨G, 0, iSn s, iLn s, tq0 t, Nat.zero_le _, rfl, lt_m1 c1.1 hc, hT0, rfl, rfl, rfl⟩
    · have hr : lvR s g = if nI (gone s g) = 61 then -4 else nI (gone s g) := by
        rw [lvR, if_neg (ge0_ne hc), if_pos ⟨Int32.not_lt.mp hc, c1.2⟩, fsA_gone]
      conv => whnf
      refine ⟨s, q, tq0 t, N, g, rfl, rfl, hT0, hIV, fun a2 b2 t2 hT2 => ?_⟩
      conv => whnf
      refine ⟨fun h1 => ?_, fun h1 => ?_⟩
      · conv => whnf
        exact kI (h a2 b2 t2 hT2) (by rw [hr, if_neg h1])
      · conv => whnf
        exact kI (h a2 b2 t2 hT2) (by rw [hr, if_pos h1])
