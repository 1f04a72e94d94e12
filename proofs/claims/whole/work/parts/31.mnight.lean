/-! ===== the reference's nights ===== -/
theorem sub5 (x : Int32) : x - 5 = x + (-5) := Int32.sub_eq_add_neg ..
theorem sub3 (x : Int32) : x - 3 = x + (-3) := Int32.sub_eq_add_neg ..
theorem andm1 (x : Int32) : x &&& (-1) = x := by
  obtain ⟨n, hn, rfl⟩ : ∃ n, n < 2 ^ 32 ∧ x = nI n := ⟨x.toBitVec.toNat, x.toBitVec.isLt, by
    show x = Int32.ofNat x.toBitVec.toNat
    apply Int32.toBitVec_inj.mp
    simp⟩
  apply Int32.toBitVec_inj.mp
  have : (-1 : Int32).toBitVec = BitVec.allOnes 32 := by decide
  simp [this]
theorem msv_w (s : InnS) (q : Pm) (t : Tm) (g k e d : Int32) : modW (svS (chS (tkS s k e) g d) g k) q t = modW (iK s, iF s, iW s, upd (iL s) (ix g) k, upd (iH s) (ix g) (heldI (iH s (ix g) + d) 99), upd (iP s) (ix k) (iP s (ix k) - e), iG s, chT (iT s) (heldI (iH s (ix g) + d) 99) g, iN s, heldI (iS s + 1) 9999, iA s, iSn s ||| jshl 1 g, iLn s) q t := rfl
theorem tk_iK (s : InnS) (k e : Int32) : iK (tkS s k e) = iK s := rfl
theorem tk_iF (s : InnS) (k e : Int32) : iF (tkS s k e) = iF s := rfl
theorem tk_iL (s : InnS) (k e : Int32) : iL (tkS s k e) = iL s := rfl
def F_X6_breakfast : Fn := fun as w K => ∃ (s : InnS) (q : Pm) (t : Tm) (j N : Nat), as = [sR 0, sI (nI j)] ∧ w = modW s q t ∧ GS s ∧ j < 7 ∧ iN s = nI N ∧ N < 100000 ∧ K none (modW (bfS s (nI j) (pkS s (tMr t) (tSy t) (nI j))) q t)
def ctb_X6_breakfast : List (Nat × (List sv → List sc → (List sv → List sc → Prop) → Prop)) := [(6, cS (some 4) 3 F_X6_dreamsOf), (33, cS none 2 F_X6_hasBit), (64, cS none 2 F_X6_held), (79, cS (some 4) 2 F_X6_eatsOf), (94, cS (some 4) 2 F_X6_eatsOf), (113, cS (some 4) 3 F_X6_gainsOf), (119, cS none 2 F_X6_held), (140, cS none 2 F_X6_held), (176, cS none 2 F_X6_held), (190, cS none 2 F_X6_held)]
theorem cok_X6_breakfast : CallOK cX6_breakfast 3 none RX6 3 ctb_X6_breakfast := CallOK_cons (site_same (rnV (pX6_breakfast_ok 6 _ rfl) ct_X6_dreamsOf kX6_dreamsOf lRX6_95 (by decide))) (CallOK_cons (site_same (rnS (pX6_breakfast_ok 33 _ rfl) ct_X6_hasBit kX6_hasBit lRX6_105 (by decide))) (CallOK_cons (site_same (rnS (pX6_breakfast_ok 64 _ rfl) ct_X6_held kX6_held lRX6_88 (by decide))) (CallOK_cons (site_same (rnV (pX6_breakfast_ok 79 _ rfl) ct_X6_eatsOf kX6_eatsOf lRX6_109 (by decide))) (CallOK_cons (site_same (rnV (pX6_breakfast_ok 94 _ rfl) ct_X6_eatsOf kX6_eatsOf lRX6_109 (by decide))) (CallOK_cons (site_same (rnV (pX6_breakfast_ok 113 _ rfl) ct_X6_gainsOf kX6_gainsOf lRX6_113 (by decide))) (CallOK_cons (site_same (rnS (pX6_breakfast_ok 119 _ rfl) ct_X6_held kX6_held lRX6_88 (by decide))) (CallOK_cons (site_same (rnS (pX6_breakfast_ok 140 _ rfl) ct_X6_held kX6_held lRX6_88 (by decide))) (CallOK_cons (site_same (rnS (pX6_breakfast_ok 176 _ rfl) ct_X6_held kX6_held lRX6_88 (by decide))) (CallOK_cons (site_same (rnS (pX6_breakfast_ok 190 _ rfl) ct_X6_held kX6_held lRX6_88 (by decide))) (CallOK_nil))))))))))
theorem ct_X6_breakfast : Ct yX6_breakfast cX6_breakfast 3 none 3 F_X6_breakfast := by
  intro l D σ cA sz as w K h
  obtain ⟨s, q, t, j, N, rfl, rfl, hGS, hj, hN, hN2, h⟩ := h
  have hv : vp_in (nI j) 7 := vp_in_nI hj (by decide)
  have ej : ix (nI j) = j := nI_clamp (by omega)
  have hf : ¬ iF s (ix (nI j)) + 2 = 0 := by
    rw [ej]
    intro q
    have := rng_f2 (hGS.1 j hj).1
    rw [q] at this; exact absurd this (by decide)
  have hd : dmS s (nI j) (iN s) = -4 ∨ rng 10 (dmS s (nI j) (iN s)) := by
    unfold dmS
    rw [ej, hN]
    exact dream_ok hN2 (hGS.1 j hj).1 (hGS.1 j hj).2.1 (hGS.1 j hj).2.2
  have hpk := pick_ok (mare := tMr t) (sil := tSy t) hGS hj hN hN2
  refine metL (pr := lkB pX6_breakfast) (rk := 0) (ct := ctb_X6_breakfast) (fld := lkB flX6) (cst := lkB csX6) (cstL := lkB clX6) [(45, ([true, true, true], fun n lv st w => n = 0 ∧ lv = [some (sR 0), some (sI (nI j)), some (sI (pkS s (tMr t) (tSy t) (nI j)))] ∧ st = [] ∧ w = modW s q t))] pX6_breakfast_ok kX6_breakfast.2.2.2.2.2.2.2 fdX6 cdX6 rto0 cok_X6_breakfast (Nat.le_of_ble_eq_true rfl) ?_ ?_ l D σ cA sz
  · refine List.forall_mem_cons.mpr ⟨?_, cut0⟩
    rintro n lv st w ⟨rfl, rfl, rfl, rfl⟩
    generalize pkS s (tMr t) (tSy t) (nI j) = k at h hpk ⊢
    conv => whnf
    refine ⟨fun hc => ?_, fun hc => ?_⟩
    · have hk4 : ¬ k = -4 := fun q => by rw [q] at hc; exact absurd hc (by decide)
      have hk := hpk.resolve_left hk4
      have hki := rng_in hk (by decide)
      repeat' ((conv => whnf); (first | refine And.intro (by first | decide | with_reducible assumption) ?_ | with_reducible refine And.intro (fun hc => ?_) (fun hc => ?_) | with_reducible refine And.intro (fun hc => ?_) ?_ | fail))
      all_goals try (conv => whnf)
      refine ⟨s, q, t, nI j, rfl, rfl, hv, ?_⟩
      repeat' ((conv => whnf); (first | refine And.intro (by first | decide | with_reducible assumption) ?_ | with_reducible refine And.intro (fun hc => ?_) (fun hc => ?_) | with_reducible refine And.intro (fun hc => ?_) ?_ | fail))
      all_goals try (conv => whnf)
      · rw [pk_us, sub3] at hc
        refine kW h ?_
        unfold bfS
        rw [if_neg hk4, if_neg (fun q => absurd (show iP s (ix k) < eatsK (iK s (ix (nI j))) by with_reducible assumption) (Int32.not_lt.mpr q))]
        unfold laS chS
        rw [chT, if_neg hc, sub3, andm1]
        rfl
      · rw [pk_us, sub3] at hc
        refine kW h ?_
        unfold bfS
        rw [if_neg hk4, if_neg (fun q => absurd (show iP s (ix k) < eatsK (iK s (ix (nI j))) by with_reducible assumption) (Int32.not_lt.mpr q))]
        unfold laS chS
        rw [chT, if_pos hc, sub3]
        rfl
      · refine ⟨s, q, t, nI j, rfl, rfl, hv, ?_⟩
        repeat' ((conv => whnf); (first | refine And.intro (by first | decide | with_reducible assumption) ?_ | with_reducible refine And.intro (fun hc => ?_) (fun hc => ?_) | with_reducible refine And.intro (fun hc => ?_) ?_ | fail))
        all_goals try (conv => whnf)
        refine ⟨tkS s k (eatsK (iK s (ix (nI j)))), q, t, nI j, k, rfl, rfl, hv, ?_⟩
        rw [tk_iK, tk_iF, tk_iL]
        repeat' ((conv => whnf); (first | refine And.intro (by first | decide | with_reducible assumption) ?_ | with_reducible refine And.intro (fun hc => ?_) (fun hc => ?_) | with_reducible refine And.intro (fun hc => ?_) ?_ | fail))
        all_goals try (conv => whnf)
        · rw [pk_us] at hc
          refine kW h ?_
          unfold bfS
          rw [if_neg hk4, if_pos (Int32.not_lt.mp (show ¬ iP s (ix k) < eatsK (iK s (ix (nI j))) by with_reducible assumption))]
          rw [msv_w, chT, if_neg hc, andm1]
          rfl
        · rw [pk_us] at hc
          refine kW h ?_
          unfold bfS
          rw [if_neg hk4, if_pos (Int32.not_lt.mp (show ¬ iP s (ix k) < eatsK (iK s (ix (nI j))) by with_reducible assumption))]
          rw [msv_w, chT, if_pos hc]
          rfl
    · have hk4 : k = -4 := hpk.resolve_right (fun ⟨a, ha, e⟩ => hc (by rw [e]; exact nI_pos' (by omega)))
      repeat' ((conv => whnf); (first | refine And.intro (by first | decide | with_reducible assumption) ?_ | with_reducible refine And.intro (fun hc => ?_) (fun hc => ?_) | with_reducible refine And.intro (fun hc => ?_) ?_ | fail))
      all_goals try (conv => whnf)
      · rw [pk_us, sub5] at hc
        refine kW h ?_
        unfold bfS
        rw [if_pos hk4]
        unfold chS
        rw [chT, if_neg hc, sub5, andm1]
        rfl
      · rw [pk_us, sub5] at hc
        refine kW h ?_
        unfold bfS
        rw [if_pos hk4]
        unfold chS
        rw [chT, if_pos hc, sub5]
        rfl
  · conv => whnf
    refine ⟨s, q, t, nI j, iN s, rfl, rfl, hv, hf, ?_⟩
    have hge : 0 ≤ dmS s (nI j) (iN s) ↔ ¬ dmS s (nI j) (iN s) = -4 := by
      rcases hd with e | ⟨a, ha, e⟩
      · rw [e]; decide
      · rw [e]
        exact ⟨fun _ q => absurd (show nI a < 0 by rw [q]; decide) (nI_pos (by omega)), fun _ => nI_pos' (by omega)⟩
    have hlt : dmS s (nI j) (iN s) < 0 ↔ dmS s (nI j) (iN s) = -4 := ⟨fun q => Classical.not_not.mp (fun r => absurd (hge.mpr r) (Int32.not_le.mpr q)), fun q => by rw [q]; decide⟩
    repeat' ((conv => whnf); (first | refine And.intro (by first | decide | with_reducible assumption) ?_ | with_reducible refine And.intro (fun hc => ?_) (fun hc => ?_) | with_reducible refine And.intro (fun hc => ?_) ?_ | fail))
    all_goals try (conv => whnf)
    all_goals
      refine ⟨0, rfl, ?_, rfl, rfl⟩
      have e : ∀ x, pkS s (tMr t) (tSy t) (nI j) = x → [some (sR 0), some (sI (nI j)), some (sI x)] = [some (sR 0), some (sI (nI j)), some (sI (pkS s (tMr t) (tSy t) (nI j)))] := fun x hx => by rw [hx]
      refine e _ ?_
      clear h e hpk hd hN hge
      unfold pkS
      simp_all [bp_0]
def t0S (t : Tm) : Tm := (0, 0, t.2.2)
def F_X6_nightOn : Fn := fun as w K => ∃ (s : InnS) (q : Pm) (t : Tm) (N : Nat), as = [sR 0] ∧ w = modW s q t ∧ GS s ∧ iN s = nI N ∧ N < 90000 ∧ K none (modW (nightS (tMr t) (tSy t) s) q (t0S t))
theorem mnb_w (s : InnS) (q : Pm) (t : Tm) : modW (nbS s) q t = modW (iK s, iF s, iW s, iL s, iH s, upd (iP s) (ix (jrem (iN s + 1) 10)) (heldI (iP s (ix (jrem (iN s + 1) 10)) + 2) 99), iG s, iT s, iN s + 1, iS s, iA s, 0, iLn s) q t := rfl
def ctb_X6_nightOn : List (Nat × (List sv → List sc → (List sv → List sc → Prop) → Prop)) := [(42, cS none 2 F_X6_held), (61, cS none 2 F_X6_hasBit), (69, cS (some 4) 2 F_X6_breakfast)]
theorem cok_X6_nightOn : CallOK cX6_nightOn 2 none RX6 4 ctb_X6_nightOn := CallOK_cons (site_same (rnS (pX6_nightOn_ok 42 _ rfl) ct_X6_held kX6_held lRX6_88 (by decide))) (CallOK_cons (site_same (rnS (pX6_nightOn_ok 61 _ rfl) ct_X6_hasBit kX6_hasBit lRX6_105 (by decide))) (CallOK_cons (site_same (rnV (pX6_nightOn_ok 69 _ rfl) ct_X6_breakfast kX6_breakfast lRX6_128 (by decide))) (CallOK_nil)))
set_option maxRecDepth 4000 in
theorem ct_X6_nightOn : Ct yX6_nightOn cX6_nightOn 2 none 4 F_X6_nightOn := by
  intro l D σ cA sz as w K h
  obtain ⟨s, q, t, N, rfl, rfl, hGS, hN, hN2, h⟩ := h
  obtain ⟨G, hG7, hG⟩ := hGS.2.1
  have hN1 : iN s + 1 = nI (N + 1) := by rw [hN, nI_1]
  have hk : jrem (iN s + 1) 10 = nI ((N + 1) % 10) := by rw [hN1]; exact jrem_nI (d := 10) (by omega) (by decide) (by decide)
  have hki : vp_in (jrem (iN s + 1) 10) 10 := by rw [hk]; exact vp_in_nI (Nat.mod_lt _ (by decide)) (by decide)
  refine metL (pr := lkB pX6_nightOn) (rk := 0) (ct := ctb_X6_nightOn) (fld := lkB flX6) (cst := lkB csX6) (cstL := lkB clX6) [(48, ([true, true], fun n lv st w => ∃ j, j ≤ G ∧ n = G - j ∧ lv = [some (sR 0), some (sI (nI j))] ∧ st = [] ∧ w = modW (gfS (tMr t) (tSy t) j (nbS s)) q t))] pX6_nightOn_ok kX6_nightOn.2.2.2.2.2.2.2 fdX6 cdX6 rto0 cok_X6_nightOn (Nat.le_of_ble_eq_true rfl) ?_ ?_ l D σ cA sz
  · refine List.forall_mem_cons.mpr ⟨?_, cut0⟩
    rintro n lv st w ⟨j, hj, rfl, rfl, rfl, rfl⟩
    have hGt := GS_gf (mare := tMr t) (sil := tSy t) (GS_nb hGS) (show iN (nbS s) = nI (N + 1) from hN1) (by omega) j (by omega)
    have hkt := gf_keep (s := nbS s) (mare := tMr t) (sil := tSy t) j
    have hNt : iN (gfS (tMr t) (tSy t) j (nbS s)) = nI (N + 1) := hkt.1.trans hN1
    have hGG : iG (gfS (tMr t) (tSy t) j (nbS s)) = nI G := hkt.2.1.trans hG
    have hsuc : gfS (tMr t) (tSy t) (j + 1) (nbS s) = gsS (gfS (tMr t) (tSy t) j (nbS s)) (tMr t) (tSy t) (nI j) := rfl
    generalize hu : gfS (tMr t) (tSy t) j (nbS s) = u at hGt hNt hGG hsuc ⊢
    clear hkt
    conv => whnf
    refine ⟨fun hc => ?_, fun hc => ?_⟩
    · skip
      repeat' ((conv => whnf); (first | refine And.intro (by first | decide | with_reducible assumption) ?_ | with_reducible refine And.intro (fun hc => ?_) (fun hc => ?_) | with_reducible refine And.intro (fun hc => ?_) ?_ | fail))
      all_goals try (conv => whnf)
      refine kW h ?_
      rw [hGG] at hc
      have hjG := lp_ge hj (by omega) hc
      unfold nightS
      rw [hG, show ix (nI G) = G from nI_clamp (by omega), ← hjG, hu]
      rfl
    · rw [hGG] at hc
      have hjG := lp_lt hj (by omega) hc
      conv => whnf
      refine ⟨fun hb => ?_, fun hb => ?_⟩
      · conv => whnf
        exact ⟨G - (j + 1), by omega, j + 1, hjG, rfl, by rw [← nI_1]; rfl, rfl, by rw [hsuc, gs_f (bp_0.mp hb)]⟩
      · have hb : tb (iT u) (nI j) := Classical.not_not.mp (fun q => hb (bp_0.mpr q))
        conv => whnf
        refine ⟨u, q, t, j, N + 1, rfl, rfl, hGt, by omega, hNt, by omega, ?_⟩
        conv => whnf
        exact ⟨G - (j + 1), by omega, j + 1, hjG, rfl, by rw [← nI_1]; rfl, rfl, by rw [hsuc, gs_t hb]⟩
  · skip
    repeat' ((conv => whnf); (first | refine And.intro (by first | decide | with_reducible assumption) ?_ | with_reducible refine And.intro (fun hc => ?_) (fun hc => ?_) | with_reducible refine And.intro (fun hc => ?_) ?_ | fail))
    all_goals try (conv => whnf)
    exact ⟨G, 0, Nat.zero_le _, rfl, rfl, rfl, rfl⟩
