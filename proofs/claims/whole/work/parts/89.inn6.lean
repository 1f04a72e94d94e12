/-! ===== inn of the reference ===== -/
abbrev rdT (t : Tm) (rd pl bd st : Int32) (pi lo to : PA) : Tm := (tSy t, tMr t, tTh t, rd, pl, bd, st, pi, lo, to, tKe t, tP0 t, tTk t, tKi t, tDr t, tCe t, tGa t, tSd t, tBt t)
def PT (c : PA) (k : Nat) (pi lo to : PA) : Prop := ∀ j, j < k → pi j = nI (pkN c j) ∧ TK c (pkN c j) j lo to
theorem PT_s {c : PA} {k : Nat} {pi lo to to' : PA} (h : PT c k pi lo to) (ht : TO c (pkN c k) (3 * k) to to') : PT c (k + 1) (upd pi k (nI (pkN c k))) (upd lo k (c (pkN c k))) to' := by
  intro j hj
  rcases (show j = k ∨ j < k by omega) with rfl | hj
  · exact ⟨pk_us, pk_us, ht.1, ht.2.1, ht.2.2.1⟩
  · obtain ⟨h1, h2, h3, h4, h5⟩ := h j hj
    refine ⟨by rw [pk_un (by omega)]; exact h1, by rw [pk_un (by omega)]; exact h2, by rw [ht.2.2.2 _ (by omega)]; exact h3, fun z => by rw [ht.2.2.2 _ (by omega)]; exact h4 z, fun z => by rw [ht.2.2.2 _ (by omega)]; exact h5 z⟩
theorem bd_ge (c : PA) (n p : Nat) : p ≤ bdP c n p := by
  unfold bdP
  repeat' split
  all_goals omega
def F_X6_inn : Fn := fun as w K => ∃ (s : InnS) (q : Pm) (t : Tm) (u : ShS) (N : Nat) (d : Int32), as = [sR 0, sI d] ∧ w = modW s q t ∧ TZ t ∧ IV s N ∧ (0 ≤ d ∧ d ≤ 7 → SR q (ix d) u ∧ SH u) ∧ ∀ a b t', TZ t' → K (some (.inl (inR s u d))) (modW (snS (inS s u d) a b) q t')
def ctb_X6_inn : List (Nat × (List sv → List sc → (List sv → List sc → Prop) → Prop)) := [(7, cS (some 4) 2 F_X6_wrongRow), (85, cS (some 4) 1 F_X6_readStatement), (108, cS (some 4) 1 F_X6_think), (123, cS (some 4) 2 F_X6_comesTold), (130, cS (some 4) 1 F_X6_again)]
theorem cok_X6_inn : CallOK cX6_inn 4 (some .int) RX6 8 ctb_X6_inn := CallOK_cons (site_same (rnV (pX6_inn_ok 7 _ rfl) ct_X6_wrongRow kX6_wrongRow lRX6_184 (by decide))) (CallOK_cons (site_same (rnV (pX6_inn_ok 85 _ rfl) ct_X6_readStatement kX6_readStatement lRX6_187 (by decide))) (CallOK_cons (site_same (rnV (pX6_inn_ok 108 _ rfl) ct_X6_think kX6_think lRX6_190 (by decide))) (CallOK_cons (site_same (rnV (pX6_inn_ok 123 _ rfl) ct_X6_comesTold kX6_comesTold lRX6_193 (by decide))) (CallOK_cons (site_same (rnV (pX6_inn_ok 130 _ rfl) ct_X6_again kX6_again lRX6_196 (by decide))) (CallOK_nil)))))
theorem ct_X6_inn : Ct yX6_inn cX6_inn 4 (some .int) 8 F_X6_inn := by
  intro l D σ cA sz as w K h
  obtain ⟨s, q, t, u, N, d, rfl, rfl, hT, hIV, hu, h⟩ := h
  refine metL (pr := lkB pX6_inn) (rk := 1) (ct := ctb_X6_inn) (fld := lkB flX6) (cst := lkB csX6) (cstL := lkB clX6) [(57, ([true, true, false, false], fun x lv st w => ∃ (k p d' n : Nat) (b : Bool) (pi lo to : PA) (t0 : Tm), TZ t0 ∧ RC q (uC u) d' n ∧ d = nI d' ∧ ix (uM u) = n ∧ (reF u d 2 = 0 ∧ uS u = 0) ∧ x = (cond b 0 (300 - p)) ∧ p < 200 ∧ k < 50 ∧ ((b = false ∧ p = pkN (uC u) k ∧ (∀ j, j < k → gdS (uC u) n (pkN (uC u) j)) ∧ PT (uC u) k pi lo to) ∨ (b = true ∧ txF (uC u) n = nI p)) ∧ lv = [some (sR 0), some (sI (nI d')), none, none] ∧ st = [] ∧ w = modR s q t0 (nI d') (nI p) (bi b) (nI k) pi lo to)), (113, ([true, false, false, true], fun x lv st w => ∃ (k n E : Nat) (t1 : Tm), TZ t1 ∧ KP s t1 ∧ tSt t1 = nI E ∧ PT (uC u) E (tPi t1) (tLo t1) (tTo t1) ∧ (n ≤ 100 ∧ ix (uM u) = n ∧ reF u d 2 = 0 ∧ uS u = 0 ∧ txF (uC u) n = -1 ∧ E = kE (uC u) n) ∧ x = E - k ∧ k ≤ E ∧ (∀ j, j < k → teP (uC u) (pkN (uC u) j) (tlS (uC u) s j)) ∧ lv = [some (sR 0), none, none, some (sI (nI k))] ∧ st = [] ∧ w = modW (tlS (uC u) s k) q t1))] pX6_inn_ok kX6_inn.2.2.2.2.2.2.2 fdX6 cdX6 rto1 cok_X6_inn (Nat.le_of_ble_eq_true rfl) ?_ ?_ l D σ cA sz
  · refine List.forall_mem_cons.mpr ⟨?_, List.forall_mem_cons.mpr ⟨?_, cut0⟩⟩
    · rintro x lv st w ⟨k, p, d', n, b, pi, lo, to, t0, hT0, hRC, ed, eN, ⟨hre, hS0⟩, rfl, hp, hk, hst, rfl, rfl, rfl⟩
      obtain ⟨hd', hn, eM, hrow⟩ := id hRC
      cases b with
      | true =>
        have htx : txF (uC u) n = nI p := by
          rcases hst with z | z
          · exact absurd z.1 (by decide)
          · exact z.2
        have hne : ¬ txF (uC u) n = -1 := by rw [htx]; exact nI_m1 (by omega)
        have e1 : inR s u d = -1000 - nI p := by unfold inR; rw [if_pos hre, if_pos hS0, eN, if_neg hne, htx]
        have e2 : inS s u d = s := by unfold inS; rw [if_neg (fun z => hne (by rw [← eN]; exact z.2.2.1))]
        have h := h (iSn s) (iLn s) (rdT t0 (nI d') (nI p) (bi true) (nI k) pi lo to) ⟨hT0.1, hT0.2⟩
        rw [e1, e2] at h
        repeat' ((conv => whnf); (first | ((with_reducible refine And.intro (fun z => ?_) (fun z => ?_)) <;> (try (first | exact absurd z (by first | assumption | decide) | exact absurd (by first | assumption | decide) z))) | fail))
        all_goals (conv => whnf)
        exact h
      | false =>
        obtain ⟨ep, hg, hPT⟩ : p = pkN (uC u) k ∧ (∀ j, j < k → gdS (uC u) n (pkN (uC u) j)) ∧ PT (uC u) k pi lo to := by
          rcases hst with z | z
          · exact z.2
          · exact absurd z.1 (by decide)
        have hup := pk_up k hg
        rw [← ep] at hup
        have key : ¬ (0 < k ∧ p = n) → ∀ p' b' to' pi' lo', rsF (uC u) n p k to = (p', b', to') → p' ≤ p + 8 → pi' = upd pi k (nI p) → lo' = upd lo k (hrF (uC u) n p) → ((b' = false ∧ p' = pkN (uC u) (k + 1) ∧ (∀ j, j < k + 1 → gdS (uC u) n (pkN (uC u) j)) ∧ PT (uC u) (k + 1) pi' lo' to') ∨ (b' = true ∧ txF (uC u) n = nI p')) ∧ cond b' 0 (300 - p') < 300 - p := by
          intro hne p' b' to' pi' lo' hrs hp' epi elo
          have hsp := rs_spec (c := uC u) (n := n) (p := p) (k := k) (to := to)
          by_cases hgd : gdS (uC u) n p
          · obtain ⟨to2, e2, hTO⟩ := hsp.1 hgd
            rw [hrs] at e2
            cases e2
            refine ⟨Or.inl ⟨rfl, by rw [ep]; rfl, lt_s hg (by rw [← ep]; exact hgd), ?_⟩, ?_⟩
            · rw [ep] at hTO
              have := PT_s hPT hTO
              rw [epi, elo, hr_in hgd.1.1, ep]
              exact this
            · show 300 - (p + dgN (uC u p) + 2) < 300 - p
              omega
          · obtain ⟨to2, e2⟩ := hsp.2 hgd
            rw [hrs] at e2
            cases e2
            refine ⟨Or.inr ⟨rfl, ?_⟩, ?_⟩
            · rw [tx_bad hn hg (by rw [← ep]; exact hgd) (by rw [← ep]; exact hne), ← ep]
            · show 0 < 300 - p
              omega
        rcases Nat.eq_zero_or_pos k with hk0 | hk0
        · conv => whnf
          refine ⟨fun z => absurd rfl z, fun _ => ?_⟩
          conv => whnf
          refine ⟨fun _ => ?_, fun z => absurd (by rw [hk0]; rfl) z⟩
          conv => whnf
          refine ⟨s, q, t0, uC u, d', n, p, k, pi, lo, to, rfl, rfl, hRC, by omega, by omega, fun p' b' to' pi' lo' hrs hp' epi elo => ?_⟩
          obtain ⟨k1, k2⟩ := key (by omega) p' b' to' pi' lo' hrs hp' epi elo
          conv => whnf
          exact ⟨_, k2, k + 1, p', d', n, b', pi', lo', to', t0, hT0, hRC, ed, eN, ⟨hre, hS0⟩, rfl, by omega, by omega, k1, rfl, rfl, rfl⟩
        · conv => whnf
          refine ⟨fun z => absurd rfl z, fun _ => ?_⟩
          conv => whnf
          refine ⟨fun z => absurd z (nI_ne0 hk0 (by omega)), fun _ => ?_⟩
          conv => whnf
          refine ⟨vp_in_nI hd' (by decide), ?_⟩
          rw [show (nI d').toNatClampNeg = d' from nI_clamp (by omega), eM]
          conv => whnf
          refine ⟨fun hc => ?_, fun hc => ?_⟩
          · have hc := (nI_leI (by omega) (by omega)).mp hc
            have epn : pkN (uC u) k = n := by omega
            have hE : kE (uC u) n = k := kE_is hn hg (by rw [epn]; exact gd_n)
            have htx := tx_ok hn hk0 hg epn
            conv => whnf
            refine ⟨fun _ => ?_, fun z => absurd rfl z⟩
            conv => whnf
            refine ⟨s, q, rdT t0 (nI d') (nI p) (bi false) (nI k) pi lo to, rfl, rfl, fun t1 hs1 hk1 => ?_⟩
            conv => whnf
            exact ⟨k - 0, (show k - 0 < 300 - p by omega), 0, n, k, t1, hs1.tz ⟨hT0.1, hT0.2⟩, hk1, hs1.2.1.2.2.2, by rw [hs1.2.2.1.1, hs1.2.2.1.2.1, hs1.2.2.1.2.2]; exact hPT, ⟨hn, eN, hre, hS0, htx, hE.symm⟩, rfl, Nat.zero_le _, (fun j hj => absurd hj (Nat.not_lt_zero _)), rfl, rfl, rfl⟩
          · have hc : p < n := Nat.not_le.mp (fun z => hc (nI_le z (by omega)))
            conv => whnf
            refine ⟨s, q, t0, uC u, d', n, p, k, pi, lo, to, rfl, rfl, hRC, by omega, by omega, fun p' b' to' pi' lo' hrs hp' epi elo => ?_⟩
            obtain ⟨k1, k2⟩ := key (by omega) p' b' to' pi' lo' hrs hp' epi elo
            conv => whnf
            exact ⟨_, k2, k + 1, p', d', n, b', pi', lo', to', t0, hT0, hRC, ed, eN, ⟨hre, hS0⟩, rfl, by omega, by omega, k1, rfl, rfl, rfl⟩
    · rintro x lv st w ⟨k, n, E, t1, hT1, hk1, eSt, hPT, ⟨hn, eN, hre, hS0, htx, eE⟩, rfl, hkE, hte, rfl, rfl, rfl⟩
      obtain ⟨g1, g2, g3, g4⟩ := tx_good hn htx
      rw [← eE] at g1 g2 g3 g4
      obtain ⟨N', hIV'⟩ := IV_tl hIV k (fun j hj => g3 j (by omega)) hte
      have hR : inR s u d = if kF (uC u) s E = E then nI E else -2000 - nI (pkN (uC u) (kF (uC u) s E)) := by
        unfold inR
        rw [if_pos hre, if_pos hS0, eN, if_pos htx, ← eE]
      conv => whnf
      refine ⟨fun hc => ?_, fun hc => ?_⟩
      · have hc : nI E ≤ nI k := by rw [← eSt]; exact hc
        have ek := lp_ge hkE (by omega) hc
        have hkf : kF (uC u) s E = E := kF_all (by rw [← ek]; exact hte)
        have hS : inS s u d = tlS (uC u) s k := by
          unfold inS
          rw [if_pos ⟨hre, hS0, by rw [eN]; exact htx, by rw [eN, ← eE]; exact hkf⟩, eN, ← eE, ek]
        have h := h (iSn (tlS (uC u) s k)) (iLn (tlS (uC u) s k)) t1 hT1
        rw [hS, hR, if_pos hkf, ← eSt] at h
        generalize tlS (uC u) s k = tk at h ⊢
        conv => whnf
        exact h
      · have hc : ¬ nI E ≤ nI k := by rw [← eSt]; exact hc
        have hlt := lp_lt hkE (by omega) hc
        obtain ⟨z1, z2, z3, z4, z5⟩ := id hIV'
        obtain ⟨y1, y2⟩ := hPT k hlt
        have hsuc : tlS (uC u) s (k + 1) = teS (uC u) (pkN (uC u) k) (tlS (uC u) s k) := rfl
        generalize ht : tlS (uC u) s k = tk at hIV' z1 z2 z3 z5 hsuc ⊢
        conv => whnf
        refine ⟨tk, q, t1, uC u, n, pkN (uC u) k, k, N', rfl, rfl, hT1, y2, g3 k hlt, by omega, z2, z3, z4, fun hno => ?_, fun hyes => ?_⟩
        · have hkf := kF_at hlt hte (by rw [ht]; exact hno)
          have hS : inS s u d = s := by
            unfold inS
            rw [if_neg]
            rintro ⟨-, -, -, z⟩
            rw [eN, ← eE, hkf] at z
            omega
          conv => whnf
          refine ⟨fun z => absurd rfl z, fun _ => ?_⟩
          conv => whnf
          refine ⟨tk, s, q, t1, rfl, rfl, hk1, z1, hIV.1, fun t2 hs2 hk2 => ?_⟩
          have h := h (iSn tk) (iLn tk) t2 (hs2.tz hT1)
          rw [hS, hR, hkf, if_neg (by omega)] at h
          conv => whnf
          refine ⟨vp_in_nI (by omega) (by decide), ?_⟩
          rw [show (nI k).toNatClampNeg = k from nI_clamp (by omega), show tPi t2 k = nI (pkN (uC u) k) by rw [hs2.2.2.1.1]; exact y1]
          conv => whnf
          exact h
        · rw [← hsuc]
          conv => whnf
          refine ⟨fun _ => ?_, fun z => absurd z (by decide)⟩
          conv => whnf
          exact ⟨E - (k + 1), by omega, k + 1, n, E, t1, hT1, hk1, eSt, hPT, ⟨hn, eN, hre, hS0, htx, eE⟩, rfl, hlt, lt_s hte (by rw [ht]; exact hyes), by rw [← nI_1]; rfl, rfl, rfl⟩
  · have h0 := h (iSn s) (iLn s) (tq0 t) hT
    conv => whnf
    refine ⟨s, q, tq0 t, u, d, rfl, rfl, fun z => (hu z).1, ?_⟩
    conv => whnf
    refine ⟨fun hc => ?_, fun hc => ?_⟩
    · have e1 : inR s u d = reF u d 2 := by unfold inR; rw [if_neg hc]
      have e2 : inS s u d = s := by unfold inS; rw [if_neg (fun z => hc z.1)]
      rw [e1, e2] at h0
      conv => whnf
      refine ⟨fun z => absurd (re_ge z) hc, fun _ => ?_⟩
      conv => whnf
      exact h0
    have hc : reF u d 2 = 0 := hc
    obtain ⟨hd, h2⟩ := re_0 hc
    obtain ⟨n, hn, eM, eN⟩ := sz_n (hu hd).2 h2
    obtain ⟨d', hd', ed⟩ := sh_n hd
    obtain ⟨z1, z2, z3⟩ := (hu hd).1.2.2 h2
    have ed' : d.toNatClampNeg = d' := by rw [ed]; exact nI_clamp (by omega)
    rw [show ix d = d' from ed'] at z1 z2 z3
    rw [eN] at z3
    conv => whnf
    refine ⟨sh_in hd, ?_⟩
    rw [ed', z1]
    conv => whnf
    refine ⟨fun hs => ?_, fun hs => ?_⟩
    · conv => whnf
      refine ⟨fun _ => ?_, fun z => absurd (by rw [hc]; decide) z⟩
      conv => whnf
      refine ⟨Or.inl rfl, ?_⟩
      conv => whnf
      exact ⟨300 - 0, 0, 0, d', n, false, tPi t, tLo t, tTo t, tq0 t, hT, ⟨hd', hn, z2.trans eM, z3⟩, ed, eN, ⟨hc, hs⟩, rfl, by decide, by decide, Or.inl ⟨rfl, rfl, (fun j hj => absurd hj (Nat.not_lt_zero _)), (fun j hj => absurd hj (Nat.not_lt_zero _))⟩, by rw [ed]; rfl, rfl, by rw [ed]; rfl⟩
    · have e1 : inR s u d = -12 := by unfold inR; rw [if_pos hc, if_neg hs]
      have e2 : inS s u d = s := by unfold inS; rw [if_neg (fun z => hs z.2.1)]
      rw [e1, e2] at h0
      repeat' ((conv => whnf); (first | ((with_reducible refine And.intro (fun z => ?_) (fun z => ?_)) <;> (try (first | exact absurd z (by first | assumption | decide) | exact absurd (by first | assumption | decide) z))) | fail))
      all_goals (conv => whnf)
      exact h0
