/-! ===== a night in the class ===== -/
/-- n plain nights -/
noncomputable def nightsS : Nat → InnS → InnS
  | 0, s => s
  | n + 1, s => nightS 0 0 (nightsS n s)
theorem GS_night {s : InnS} {mare sil : Int32} {N : Nat} (h : GS s) (hN : iN s = nI N) (hN2 : N < 90000) : GS (nightS mare sil s) := by
  have hN1 : iN (nbS s) = nI (N + 1) := by show iN s + 1 = _; rw [hN, nI_1]
  obtain ⟨G, hG7, hG⟩ := h.2.1
  unfold nightS
  rw [hG, show ix (nI G) = G from nI_clamp (by omega)]
  exact GS_gf (GS_nb h) hN1 (by omega) G (by omega)
theorem night_keep {s : InnS} {mare sil : Int32} : iN (nightS mare sil s) = iN s + 1 ∧ iG (nightS mare sil s) = iG s ∧ iK (nightS mare sil s) = iK s ∧ iF (nightS mare sil s) = iF s ∧ iW (nightS mare sil s) = iW s := gf_keep (s := nbS s) _
theorem nights_keep {s : InnS} {N : Nat} (h : GS s) (hN : iN s = nI N) : ∀ n, N + n < 90001 → GS (nightsS n s) ∧ iN (nightsS n s) = nI (N + n)
  | 0, _ => ⟨h, hN⟩
  | n + 1, hn => by
    obtain ⟨h1, h2⟩ := nights_keep h hN n (by omega)
    refine ⟨GS_night h1 h2 (by omega), ?_⟩
    show iN (nightS 0 0 (nightsS n s)) = _
    rw [night_keep.1, h2, nI_1]
    rfl
def F_X0_passNight : Fn := fun as w K => ∃ (s : InnS) (mare sil : Int32) (N : Nat), as = [sR 0, sI mare, sI sil] ∧ w = innW s ∧ GS s ∧ iN s = nI N ∧ N < 90000 ∧ K none (innW (nightS mare sil s))
abbrev nnS (s : InnS) : InnS := (iK s, iF s, iW s, iL s, iH s, iP s, iG s, iT s, iN s + 1, iS s, iA s, iSn s, iLn s)
theorem nb_w (s : InnS) (h : ¬ iP s (ix (jrem (iN s + 1) 10)) + 2 < 0) : innW (nbS s) = innW (iK s, iF s, iW s, iL s, iH s, iP (stS (nnS s) (jrem (iN s + 1) 10) 2), iG s, iT s, iN s + 1, iS s, iA s, 0, 0) := by
  unfold nbS stS
  rw [held_m9 _ h]
theorem gs_f {s : InnS} {mare sil g : Int32} (h : ¬ tb (iT s) g) : gsS s mare sil g = s := by unfold gsS; rw [if_neg h]
theorem gs_t {s : InnS} {mare sil g : Int32} (h : tb (iT s) g) : gsS s mare sil g = bfS s g (pkS s mare sil g) := by unfold gsS; rw [if_pos h]
def ctb_X0_passNight : List (Nat × (List sv → List sc → (List sv → List sc → Prop) → Prop)) := [(19, cS (some 0) 3 F_X0_stock), (44, cS (some 0) 2 F_X0_isThere), (56, cS (some 0) 3 F_X0_dream), (92, cS (some 0) 3 F_X0_breakfast)]
theorem cok_X0_passNight : CallOK cX0_passNight 5 none RX0 4 ctb_X0_passNight := CallOK_cons (site_same (rnV (pX0_passNight_ok 19 _ rfl) ct_X0_stock kX0_stock lRX0_72 (by decide))) (CallOK_cons (site_same (rnV (pX0_passNight_ok 44 _ rfl) ct_X0_isThere kX0_isThere lRX0_76 (by decide))) (CallOK_cons (site_same (rnV (pX0_passNight_ok 56 _ rfl) ct_X0_dream kX0_dream lRX0_80 (by decide))) (CallOK_cons (site_same (rnV (pX0_passNight_ok 92 _ rfl) ct_X0_breakfast kX0_breakfast lRX0_83 (by decide))) (CallOK_nil))))
set_option maxRecDepth 4000 in
theorem ct_X0_passNight : Ct yX0_passNight cX0_passNight 5 none 4 F_X0_passNight := by
  intro l D σ cA sz as w K h
  obtain ⟨s, mare, sil, N, rfl, rfl, hGS, hN, hN2, h⟩ := h
  obtain ⟨G, hG7, hG⟩ := hGS.2.1
  have hN1 : iN s + 1 = nI (N + 1) := by rw [hN, nI_1]
  have hk : jrem (iN s + 1) 10 = nI ((N + 1) % 10) := by rw [hN1]; exact jrem_nI (d := 10) (by omega) (by decide) (by decide)
  have hki : vp_in (jrem (iN s + 1) 10) 10 := by rw [hk]; exact vp_in_nI (Nat.mod_lt _ (by decide)) (by decide)
  have hkp : ¬ iP s (ix (jrem (iN s + 1) 10)) + 2 < 0 := by
    rw [hk]
    have e : ix (nI ((N + 1) % 10)) = (N + 1) % 10 := nI_clamp (by omega)
    rw [e]
    obtain ⟨a, ha, hp⟩ := hGS.2.2.2.2.1 ((N + 1) % 10) (Nat.mod_lt _ (by decide))
    rw [hp, show (2 : Int32) = nI 2 by decide, nI_add]
    exact nI_pos (by omega)
  refine metL (pr := lkB pX0_passNight) (rk := 0) (ct := ctb_X0_passNight) (fld := lkB flX0) (cst := lkB csX0) (cstL := lkB clX0) [(34, ([true, true, true, true, false], fun n lv st w => ∃ j, j ≤ G ∧ n = G - j ∧ lv = [some (sR 0), some (sI mare), some (sI sil), some (sI (nI j)), none] ∧ st = [] ∧ w = innW (gfS mare sil j (nbS s))))] pX0_passNight_ok kX0_passNight.2.2.2.2.2.2.2 fdX0 cdX0 rto0 cok_X0_passNight (Nat.le_of_ble_eq_true rfl) ?_ ?_ l D σ cA sz
  · refine List.forall_mem_cons.mpr ⟨?_, cut0⟩
    rintro n lv st w ⟨j, hj, rfl, rfl, rfl, rfl⟩
    have hGt := GS_gf (mare := mare) (sil := sil) (GS_nb hGS) (show iN (nbS s) = nI (N + 1) from hN1) (by omega) j (by omega)
    have hkt := gf_keep (s := nbS s) (mare := mare) (sil := sil) j
    have hNt : iN (gfS mare sil j (nbS s)) = nI (N + 1) := hkt.1.trans hN1
    have hGG : iG (gfS mare sil j (nbS s)) = nI G := hkt.2.1.trans hG
    have hsuc : gfS mare sil (j + 1) (nbS s) = gsS (gfS mare sil j (nbS s)) mare sil (nI j) := rfl
    generalize ht : gfS mare sil j (nbS s) = t at hGt hNt hGG hsuc ⊢
    clear hkt
    conv => whnf
    refine ⟨fun hc => ?_, fun hc => ?_⟩
    · conv => whnf
      refine kW h ?_
      have hjG : j = G := by
        rw [hGG] at hc
        have := (nI_leI (by omega) (by omega)).mp hc
        omega
      unfold nightS
      rw [hG, show ix (nI G) = G from nI_clamp (by omega), ← hjG, ht]
    · have hjG : j < G := by
        rw [hGG] at hc
        rcases Nat.lt_or_ge j G with q | q
        · exact q
        · exact absurd (nI_le q (by omega)) hc
      have hvp : vp_in (nI j) 7 := vp_in_nI (by omega) (by decide)
      conv => whnf
      refine ⟨t, nI j, rfl, rfl, ?_⟩
      conv => whnf
      refine ⟨fun hb => ?_, fun hb => ?_⟩
      · conv => whnf
        exact ⟨G - (j + 1), by omega, j + 1, hjG, rfl, by rw [← nI_1]; rfl, rfl, by rw [hsuc, gs_f (bp_0.mp hb)]⟩
      · have hb : tb (iT t) (nI j) := Classical.not_not.mp (fun q => hb (bp_0.mpr q))
        conv => whnf
        refine ⟨t, nI j, iN t, rfl, rfl, hvp, ?_, ?_⟩
        · rw [show ix (nI j) = j from nI_clamp (by omega)]
          exact rng_f2 (hGt.1 j (by omega)).1
        repeat' ((conv => whnf); (first | refine And.intro (by first | decide | with_reducible assumption) ?_ | with_reducible refine And.intro (fun hc => ?_) (fun hc => ?_) | with_reducible refine And.intro (fun hc => ?_) ?_ | fail))
        all_goals try (conv => whnf)
        all_goals
          refine ⟨t, nI j, pkS t mare sil (nI j), ?_, rfl, hvp, pick_ok hGt (by omega) hNt (by omega), ⟨(rng_inc hGt.2.2.1).1, (rng_inc hGt.2.2.2.1).1⟩, ?_⟩
          · clear hNt hGG hsuc ht hN hN1 hG h
            simp [pkS, tb, *]
          · conv => whnf
            exact ⟨G - (j + 1), by omega, j + 1, hjG, rfl, by rw [← nI_1]; rfl, rfl, by rw [hsuc, gs_t hb]⟩
  · skip
    repeat' ((conv => whnf); (first | refine And.intro (by first | decide | with_reducible assumption) ?_ | with_reducible refine And.intro (fun hc => ?_) (fun hc => ?_) | with_reducible refine And.intro (fun hc => ?_) ?_ | fail))
    all_goals try (conv => whnf)
    refine ⟨nnS s, _, 2, rfl, rfl, hki, ?_⟩
    repeat' ((conv => whnf); (first | refine And.intro (by first | decide | with_reducible assumption) ?_ | with_reducible refine And.intro (fun hc => ?_) (fun hc => ?_) | with_reducible refine And.intro (fun hc => ?_) ?_ | fail))
    all_goals try (conv => whnf)
    exact ⟨G, 0, Nat.zero_le _, rfl, rfl, rfl, by show _ = innW (nbS s); rw [nb_w s hkp]; rfl⟩
def F_X0_pass : Fn := fun as w K => ∃ (s : InnS) (n N : Nat), as = [sR 0, sI (nI n)] ∧ w = innW s ∧ GS s ∧ iN s = nI N ∧ N + n < 90000 ∧ K none (innW (nightsS n s))
def ctb_X0_pass : List (Nat × (List sv → List sc → (List sv → List sc → Prop) → Prop)) := [(10, cS (some 0) 3 F_X0_passNight)]
theorem cok_X0_pass : CallOK cX0_pass 3 none RX0 5 ctb_X0_pass := CallOK_cons (site_same (rnV (pX0_pass_ok 10 _ rfl) ct_X0_passNight kX0_passNight lRX0_68 (by decide))) (CallOK_nil)
theorem ct_X0_pass : Ct yX0_pass cX0_pass 3 none 5 F_X0_pass := by
  intro l D σ cA sz as w K h
  obtain ⟨s, m, N, rfl, rfl, hGS, hN, hN2, h⟩ := h
  refine metL (pr := lkB pX0_pass) (rk := 0) (ct := ctb_X0_pass) (fld := lkB flX0) (cst := lkB csX0) (cstL := lkB clX0) [(2, ([true, true, true], fun n lv st w => ∃ j, j ≤ m ∧ n = m - j ∧ lv = [some (sR 0), some (sI (nI m)), some (sI (nI j))] ∧ st = [] ∧ w = innW (nightsS j s)))] pX0_pass_ok kX0_pass.2.2.2.2.2.2.2 fdX0 cdX0 rto0 cok_X0_pass (Nat.le_of_ble_eq_true rfl) ?_ ?_ l D σ cA sz
  · refine List.forall_mem_cons.mpr ⟨?_, cut0⟩
    rintro n lv st w ⟨j, hj, rfl, rfl, rfl, rfl⟩
    obtain ⟨g1, g2⟩ := nights_keep hGS hN j (by omega)
    have hsuc : nightsS (j + 1) s = nightS 0 0 (nightsS j s) := rfl
    conv => whnf
    refine ⟨fun hc => ?_, fun hc => ?_⟩
    · conv => whnf
      have : j = m := by
        have := (nI_leI (by omega) (by omega)).mp hc
        omega
      rw [← this] at h
      exact h
    · have hjm : j < m := by
        rcases Nat.lt_or_ge j m with q | q
        · exact q
        · exact absurd (nI_le q (by omega)) hc
      conv => whnf
      refine ⟨nightsS j s, 0, 0, N + j, rfl, rfl, g1, g2, by omega, ?_⟩
      conv => whnf
      exact ⟨m - (j + 1), by omega, j + 1, hjm, rfl, by rw [← nI_1]; rfl, rfl, by rw [hsuc]⟩
  · skip
    repeat' ((conv => whnf); (first | refine And.intro (by first | decide | with_reducible assumption) ?_ | with_reducible refine And.intro (fun hc => ?_) (fun hc => ?_) | with_reducible refine And.intro (fun hc => ?_) ?_ | fail))
    all_goals try (conv => whnf)
    exact ⟨m, 0, Nat.zero_le _, rfl, rfl, rfl, rfl⟩
