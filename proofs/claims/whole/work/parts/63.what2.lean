/-! ===== whatIs, whatWish of the reference: one row ===== -/
/-- the reference's row d is u's, of n elements -/
def RW (q : Pm) (u : ShS) (d n : Nat) : Prop := d < 8 ∧ n ≤ 100 ∧ qM q d = nI n ∧ qS q d = uS u ∧ ∀ i, i < n → qR q (100 * d + i) = (uC u i).toInt64
theorem RW_of {q : Pm} {u : ShS} {d : Int32} (h : SR q (ix d) u ∧ SH u) (hd : 0 ≤ d ∧ d ≤ 7) (h2 : uO u = 2) : ∃ d' n, d = nI d' ∧ ix (uM u) = n ∧ uM u = nI n ∧ RW q u d' n := by
  obtain ⟨n, hn, eM, eN⟩ := sz_n h.2 h2
  obtain ⟨d', hd', ed⟩ := sh_n hd
  obtain ⟨z1, z2, z3⟩ := h.1.2.2 h2
  rw [ed, show ix (nI d') = d' from nI_clamp (by omega)] at z1 z2 z3
  rw [eN] at z3
  exact ⟨d', n, ed, eN, eM, hd', hn, z2.trans eM, z1, z3⟩
def F_X6_isHealthRow : Fn := fun as w K => ∃ (s s0 : InnS) (q : Pm) (t : Tm) (u : ShS) (N n d : Nat) (g : Int32), as = [sR 0, sI (nI d), sI g] ∧ w = modW s q t ∧ TZ t ∧ KP s0 t ∧ ZB s ∧ ZB s0 ∧ GS s ∧ iN s = nI N ∧ N ≤ 999 ∧ vp_in g 7 ∧ RW q u d n ∧ ∀ a b t', SK t t' → KP s0 t' → K (some (.inl (bp (hsP u s (ix g) n)))) (modW (snS s0 a b) q t')
def ctb_X6_isHealthRow : List (Nat × (List sv → List sc → (List sv → List sc → Prop) → Prop)) := [(24, cS (some 4) 3 F_X6_isSkipped), (60, cS (some 4) 1 F_X6_nightOn), (70, cS (some 4) 1 F_X6_again)]
theorem cok_X6_isHealthRow : CallOK cX6_isHealthRow 5 (some .boolean) RX6 5 ctb_X6_isHealthRow := CallOK_cons (site_same (rnV (pX6_isHealthRow_ok 24 _ rfl) ct_X6_isSkipped kX6_isSkipped lRX6_284 (by decide))) (CallOK_cons (site_same (rnV (pX6_isHealthRow_ok 60 _ rfl) ct_X6_nightOn kX6_nightOn lRX6_132 (by decide))) (CallOK_cons (site_same (rnV (pX6_isHealthRow_ok 70 _ rfl) ct_X6_again kX6_again lRX6_196 (by decide))) (CallOK_nil)))
theorem ct_X6_isHealthRow : Ct yX6_isHealthRow cX6_isHealthRow 5 (some .boolean) 5 F_X6_isHealthRow := by
  intro l D σ cA sz as w K h
  obtain ⟨s, s0, q, t, u, N, n, d, g, rfl, rfl, hT, hk, hZ, hZ0, hG, hN, hN9, hg, ⟨hd, hn, eM, eS, hrow⟩, h⟩ := h
  refine metL (pr := lkB pX6_isHealthRow) (rk := 2) (ct := ctb_X6_isHealthRow) (fld := lkB flX6) (cst := lkB csX6) (cstL := lkB clX6) [(5, ([true, true, true, true, true], fun x lv st w => ∃ (j : Nat) (is : Int32), j ≤ n ∧ x = n - j ∧ ((is = 1 ∧ ∀ k, k < j → soP u k (iH (nightsS k s) (ix g))) ∨ (is = 0 ∧ ¬ hsP u s (ix g) n)) ∧ lv = [some (sR 0), some (sI (nI d)), some (sI g), some (sI is), some (sI (nI j))] ∧ st = [] ∧ w = modW (nightsS j s) q t))] pX6_isHealthRow_ok kX6_isHealthRow.2.2.2.2.2.2.2 fdX6 cdX6 rto2 cok_X6_isHealthRow (Nat.le_of_ble_eq_true rfl) ?_ ?_ l D σ cA sz
  · refine List.forall_mem_cons.mpr ⟨?_, cut0⟩
    rintro x lv st w ⟨j, is, hj, rfl, his, rfl, rfl, rfl⟩
    have hz := ZB_nights hZ hG hN j (by omega)
    obtain ⟨g1, g2⟩ := nights_keep hG hN j (by omega)
    have hsuc : nightsS (j + 1) s = nightS 0 0 (nightsS j s) := rfl
    have h01 : is = 0 ∨ is = 1 := his.elim (fun z => Or.inr z.1) (fun z => Or.inl z.1)
    conv => whnf
    refine ⟨vp_in_nI hd (by decide), ?_⟩
    rw [show (nI d).toNatClampNeg = d from nI_clamp (by omega), eM]
    conv => whnf
    refine ⟨fun hc => ?_, fun hc => ?_⟩
    · have ej := lp_ge hj (by omega) hc
      have hr : bp (hsP u s (ix g) n) = is := by
        rcases his with ⟨e, z⟩ | ⟨e, z⟩
        · rw [e, bp_t (by rw [← ej]; exact z)]
        · rw [e, bp_f z]
      conv => whnf
      refine ⟨nightsS j s, s0, q, t, rfl, rfl, hk, hz, hZ0, fun t2 hs2 hk2 => ?_⟩
      conv => whnf
      exact ⟨h01, kI (h (iSn (nightsS j s)) (iLn (nightsS j s)) t2 hs2 hk2) hr⟩
    have hlt := lp_lt hj (by omega) hc
    obtain ⟨r1, r2, r3⟩ := row_ix hd (show j < 100 by omega)
    conv => whnf
    refine ⟨fun h1 => ?_, fun h1 => ?_⟩
    · have hr : bp (hsP u s (ix g) n) = is := by
        rcases his with ⟨e, z⟩ | ⟨e, z⟩
        · rw [e] at h1; exact absurd h1 (by decide)
        · rw [e, bp_f z]
      conv => whnf
      refine ⟨nightsS j s, s0, q, t, rfl, rfl, hk, hz, hZ0, fun t2 hs2 hk2 => ?_⟩
      conv => whnf
      exact ⟨h01, kI (h (iSn (nightsS j s)) (iLn (nightsS j s)) t2 hs2 hk2) hr⟩
    have hall := (his.resolve_right (fun z => h1 z.1)).2
    conv => whnf
    refine ⟨nightsS j s, q, t, u, d, j, rfl, rfl, hd, by omega, hrow j hlt, eS, ?_⟩
    conv => whnf
    refine ⟨fun h2 => ?_, fun h2 => ?_⟩
    · conv => whnf
      refine ⟨nightsS j s, q, t, N + j, rfl, rfl, g1, g2, by omega, ?_⟩
      rw [t0_w _ _ hT, hT.1, hT.2, ← hsuc]
      conv => whnf
      exact ⟨n - (j + 1), by omega, j + 1, 1, hlt, rfl, Or.inl ⟨rfl, all_s hall (Or.inr (bp_n h2))⟩, by rw [← nI_1]; rfl, rfl, rfl⟩
    have h2 := bp_0.mp h2
    conv => whnf
    rw [r1]
    refine ⟨r2, ?_⟩
    rw [r3, hrow j hlt]
    conv => whnf
    refine ⟨hg, ?_⟩
    conv => whnf
    refine ⟨fun h3 => ?_, fun h3 => ?_⟩
    · conv => whnf
      refine ⟨nightsS j s, q, t, N + j, rfl, rfl, g1, g2, by omega, ?_⟩
      rw [t0_w _ _ hT, hT.1, hT.2, ← hsuc]
      conv => whnf
      exact ⟨n - (j + 1), by omega, j + 1, 0, hlt, rfl, Or.inr ⟨rfl, fun z => (z j hlt).elim (fun y => h3 ((ce_ii _ _).mpr y)) h2⟩, by rw [← nI_1]; rfl, rfl, rfl⟩
    · have h3 := (ce_ii _ _).mp h3
      conv => whnf
      refine ⟨nightsS j s, q, t, N + j, rfl, rfl, g1, g2, by omega, ?_⟩
      rw [t0_w _ _ hT, hT.1, hT.2, ← hsuc]
      conv => whnf
      exact ⟨n - (j + 1), by omega, j + 1, 1, hlt, rfl, Or.inl ⟨rfl, all_s hall (Or.inl h3)⟩, by rw [← nI_1]; rfl, rfl, rfl⟩
  · skip
    repeat' ((conv => whnf); (first | refine And.intro (by first | decide | with_reducible assumption) ?_ | with_reducible refine And.intro (fun hc => ?_) (fun hc => ?_) | with_reducible refine And.intro (fun hc => ?_) ?_ | fail))
    all_goals try (conv => whnf)
    exact ⟨n, 0, 1, Nat.zero_le _, rfl, Or.inl ⟨rfl, all_0⟩, rfl, rfl, rfl⟩
def F_X6_isPlateRow : Fn := fun as w K => ∃ (s s0 : InnS) (q : Pm) (t : Tm) (u : ShS) (N n d : Nat) (g : Int32), as = [sR 0, sI (nI d), sI g] ∧ w = modW s q t ∧ TZ t ∧ KP s0 t ∧ ZB s ∧ ZB s0 ∧ GS s ∧ iN s = nI N ∧ N ≤ 999 ∧ vp_in g 7 ∧ RW q u d n ∧ ∀ a b t', SK t t' → KP s0 t' → K (some (.inl (bp (lsP u s (ix g) n)))) (modW (snS s0 a b) q t')
def ctb_X6_isPlateRow : List (Nat × (List sv → List sc → (List sv → List sc → Prop) → Prop)) := [(21, cS (some 4) 1 F_X6_nightOn), (28, cS (some 4) 3 F_X6_isSkipped), (70, cS (some 4) 1 F_X6_again)]
theorem cok_X6_isPlateRow : CallOK cX6_isPlateRow 5 (some .boolean) RX6 5 ctb_X6_isPlateRow := CallOK_cons (site_same (rnV (pX6_isPlateRow_ok 21 _ rfl) ct_X6_nightOn kX6_nightOn lRX6_132 (by decide))) (CallOK_cons (site_same (rnV (pX6_isPlateRow_ok 28 _ rfl) ct_X6_isSkipped kX6_isSkipped lRX6_284 (by decide))) (CallOK_cons (site_same (rnV (pX6_isPlateRow_ok 70 _ rfl) ct_X6_again kX6_again lRX6_196 (by decide))) (CallOK_nil)))
theorem ct_X6_isPlateRow : Ct yX6_isPlateRow cX6_isPlateRow 5 (some .boolean) 5 F_X6_isPlateRow := by
  intro l D σ cA sz as w K h
  obtain ⟨s, s0, q, t, u, N, n, d, g, rfl, rfl, hT, hk, hZ, hZ0, hG, hN, hN9, hg, ⟨hd, hn, eM, eS, hrow⟩, h⟩ := h
  refine metL (pr := lkB pX6_isPlateRow) (rk := 2) (ct := ctb_X6_isPlateRow) (fld := lkB flX6) (cst := lkB csX6) (cstL := lkB clX6) [(5, ([true, true, true, true, true], fun x lv st w => ∃ (j : Nat) (is : Int32), j ≤ n ∧ x = n - j ∧ ((is = 1 ∧ ∀ k, k < j → soP u k (iL (nightsS (k + 1) s) (ix g))) ∨ (is = 0 ∧ ¬ lsP u s (ix g) n)) ∧ lv = [some (sR 0), some (sI (nI d)), some (sI g), some (sI is), some (sI (nI j))] ∧ st = [] ∧ w = modW (nightsS j s) q t))] pX6_isPlateRow_ok kX6_isPlateRow.2.2.2.2.2.2.2 fdX6 cdX6 rto2 cok_X6_isPlateRow (Nat.le_of_ble_eq_true rfl) ?_ ?_ l D σ cA sz
  · refine List.forall_mem_cons.mpr ⟨?_, cut0⟩
    rintro x lv st w ⟨j, is, hj, rfl, his, rfl, rfl, rfl⟩
    have hz := ZB_nights hZ hG hN j (by omega)
    obtain ⟨g1, g2⟩ := nights_keep hG hN j (by omega)
    have hsuc : nightsS (j + 1) s = nightS 0 0 (nightsS j s) := rfl
    have h01 : is = 0 ∨ is = 1 := his.elim (fun z => Or.inr z.1) (fun z => Or.inl z.1)
    conv => whnf
    refine ⟨vp_in_nI hd (by decide), ?_⟩
    rw [show (nI d).toNatClampNeg = d from nI_clamp (by omega), eM]
    conv => whnf
    refine ⟨fun hc => ?_, fun hc => ?_⟩
    · have ej := lp_ge hj (by omega) hc
      have hr : bp (lsP u s (ix g) n) = is := by
        rcases his with ⟨e, z⟩ | ⟨e, z⟩
        · rw [e, bp_t (by rw [← ej]; exact z)]
        · rw [e, bp_f z]
      conv => whnf
      refine ⟨nightsS j s, s0, q, t, rfl, rfl, hk, hz, hZ0, fun t2 hs2 hk2 => ?_⟩
      conv => whnf
      exact ⟨h01, kI (h (iSn (nightsS j s)) (iLn (nightsS j s)) t2 hs2 hk2) hr⟩
    have hlt := lp_lt hj (by omega) hc
    obtain ⟨r1, r2, r3⟩ := row_ix hd (show j < 100 by omega)
    conv => whnf
    refine ⟨fun h1 => ?_, fun h1 => ?_⟩
    · have hr : bp (lsP u s (ix g) n) = is := by
        rcases his with ⟨e, z⟩ | ⟨e, z⟩
        · rw [e] at h1; exact absurd h1 (by decide)
        · rw [e, bp_f z]
      conv => whnf
      refine ⟨nightsS j s, s0, q, t, rfl, rfl, hk, hz, hZ0, fun t2 hs2 hk2 => ?_⟩
      conv => whnf
      exact ⟨h01, kI (h (iSn (nightsS j s)) (iLn (nightsS j s)) t2 hs2 hk2) hr⟩
    have hall := (his.resolve_right (fun z => h1 z.1)).2
    conv => whnf
    refine ⟨nightsS j s, q, t, N + j, rfl, rfl, g1, g2, by omega, ?_⟩
    rw [t0_w _ _ hT, hT.1, hT.2, ← hsuc]
    conv => whnf
    refine ⟨nightsS (j + 1) s, q, t, u, d, j, rfl, rfl, hd, by omega, hrow j hlt, eS, ?_⟩
    conv => whnf
    refine ⟨fun h2 => ?_, fun h2 => ?_⟩
    · conv => whnf
      exact ⟨n - (j + 1), by omega, j + 1, 1, hlt, rfl, Or.inl ⟨rfl, all_s hall (Or.inr (bp_n h2))⟩, by rw [← nI_1]; rfl, rfl, rfl⟩
    have h2 := bp_0.mp h2
    conv => whnf
    rw [r1]
    refine ⟨r2, ?_⟩
    rw [r3, hrow j hlt]
    conv => whnf
    refine ⟨hg, ?_⟩
    conv => whnf
    refine ⟨fun h3 => ?_, fun h3 => ?_⟩
    · conv => whnf
      exact ⟨n - (j + 1), by omega, j + 1, 0, hlt, rfl, Or.inr ⟨rfl, fun z => (z j hlt).elim (fun y => h3 ((ce_ii _ _).mpr y)) h2⟩, by rw [← nI_1]; rfl, rfl, rfl⟩
    · have h3 := (ce_ii _ _).mp h3
      conv => whnf
      exact ⟨n - (j + 1), by omega, j + 1, 1, hlt, rfl, Or.inl ⟨rfl, all_s hall (Or.inl h3)⟩, by rw [← nI_1]; rfl, rfl, rfl⟩
  · skip
    repeat' ((conv => whnf); (first | refine And.intro (by first | decide | with_reducible assumption) ?_ | with_reducible refine And.intro (fun hc => ?_) (fun hc => ?_) | with_reducible refine And.intro (fun hc => ?_) ?_ | fail))
    all_goals try (conv => whnf)
    exact ⟨n, 0, 1, Nat.zero_le _, rfl, Or.inl ⟨rfl, all_0⟩, rfl, rfl, rfl⟩
