/-! ===== a statement is told ===== -/
abbrev lsS (s : InnS) (g k : Int32) : InnS := (iK s, iF s, iW s, upd (iL s) (ix g) k, iH s, iP s, iG s, iT s, iN s, iS s, iA s, iSn s, iLn s)
abbrev hhS (s : InnS) (g v : Int32) : InnS := (iK s, iF s, iW s, iL s, upd (iH s) (ix g) v, iP s, iG s, iT s ||| jshl 1 g, iN s, iS s, iA s, iSn s, iLn s)
abbrev ppS (s : InnS) (k v : Int32) : InnS := (iK s, iF s, iW s, iL s, iH s, upd (iP s) (ix k) v, iG s, iT s, iN s, iS s, iA s, iSn s, iLn s)
def F_X4_setStock : Fn := fun as w K => ∃ (s : InnS) (k v : Int32), as = [sR 0, sI k, sI v] ∧ w = innW s ∧ vp_in k 10 ∧ K (some (.inl 1)) (innW (ppS s k v))
def ctb_X4_setStock : List (Nat × (List sv → List sc → (List sv → List sc → Prop) → Prop)) := []
theorem cok_X4_setStock : CallOK cX4_setStock 3 (some .boolean) RX4 1 ctb_X4_setStock := CallOK_nil
theorem ct_X4_setStock : Ct yX4_setStock cX4_setStock 3 (some .boolean) 1 F_X4_setStock := by
  intro l D σ cA sz as w K h
  obtain ⟨s, k, v, rfl, rfl, hk, h⟩ := h
  refine metL (pr := lkB pX4_setStock) (rk := 2) (ct := ctb_X4_setStock) (fld := lkB flX4) (cst := lkB csX4) (cstL := lkB clX4) [] pX4_setStock_ok kX4_setStock.2.2.2.2.2 fdX4 cdX4 rto2 cok_X4_setStock (Nat.le_of_ble_eq_true rfl) cut0 ?_ l D σ cA sz
  conv => whnf
  refine ⟨hk, ?_⟩
  conv => whnf
  exact ⟨Or.inr rfl, h⟩
def F_X4_addStock : Fn := fun as w K => ∃ (s : InnS) (k v : Int32), as = [sR 0, sI k, sI v] ∧ w = innW s ∧ vp_in k 10 ∧ K (some (.inl 1)) (innW (stS s k v))
def ctb_X4_addStock : List (Nat × (List sv → List sc → (List sv → List sc → Prop) → Prop)) := [(3, cS (some 0) 3 F_X0_stock)]
theorem cok_X4_addStock : CallOK cX4_addStock 3 (some .boolean) RX4 2 ctb_X4_addStock := CallOK_cons (site_same (rnV (pX4_addStock_ok 3 _ rfl) ct_X0_stock kX0_stock lRX4_70 (by decide))) (CallOK_nil)
theorem ct_X4_addStock : Ct yX4_addStock cX4_addStock 3 (some .boolean) 2 F_X4_addStock := by
  intro l D σ cA sz as w K h
  obtain ⟨s, k, v, rfl, rfl, hk, h⟩ := h
  refine metL (pr := lkB pX4_addStock) (rk := 2) (ct := ctb_X4_addStock) (fld := lkB flX4) (cst := lkB csX4) (cstL := lkB clX4) [] pX4_addStock_ok kX4_addStock.2.2.2.2.2 fdX4 cdX4 rto2 cok_X4_addStock (Nat.le_of_ble_eq_true rfl) cut0 ?_ l D σ cA sz
  conv => whnf
  refine ⟨s, k, v, rfl, rfl, hk, ?_⟩
  conv => whnf
  exact ⟨Or.inr rfl, h⟩
abbrev knP (s : InnS) (g : Int32) : Prop := 0 ≤ g ∧ g ≤ iG s - 1
def F_X4_setWish : Fn := fun as w K => ∃ (s : InnS) (g k : Int32), as = [sR 0, sI g, sI k] ∧ w = innW s ∧ GS s ∧ (¬ knP s g → K (some (.inl 0)) w) ∧ (knP s g → K (some (.inl 1)) (innW (wbS s g k)))
def ctb_X4_setWish : List (Nat × (List sv → List sc → (List sv → List sc → Prop) → Prop)) := [(2, cS (some 0) 2 F_X0_knows)]
theorem cok_X4_setWish : CallOK cX4_setWish 3 (some .boolean) RX4 3 ctb_X4_setWish := CallOK_cons (site_same (rnV (pX4_setWish_ok 2 _ rfl) ct_X0_knows kX0_knows lRX4_74 (by decide))) (CallOK_nil)
theorem ct_X4_setWish : Ct yX4_setWish cX4_setWish 3 (some .boolean) 3 F_X4_setWish := by
  intro l D σ cA sz as w K h
  obtain ⟨s, g, k, rfl, rfl, hG, hno, h⟩ := h
  refine metL (pr := lkB pX4_setWish) (rk := 2) (ct := ctb_X4_setWish) (fld := lkB flX4) (cst := lkB csX4) (cstL := lkB clX4) [] pX4_setWish_ok kX4_setWish.2.2.2.2.2 fdX4 cdX4 rto2 cok_X4_setWish (Nat.le_of_ble_eq_true rfl) cut0 ?_ l D σ cA sz
  conv => whnf
  refine ⟨s, g, rfl, rfl, ?_⟩
  conv => whnf
  refine ⟨fun hc => ?_, fun hc => ?_⟩
  · have hc := bp_n hc
    conv => whnf
    refine ⟨kn_in hG hc, ?_⟩
    conv => whnf
    exact ⟨Or.inr rfl, h hc⟩
  · conv => whnf
    exact ⟨Or.inl rfl, hno (bp_0.mp hc)⟩
def F_X4_setLast : Fn := fun as w K => ∃ (s : InnS) (g k : Int32), as = [sR 0, sI g, sI k] ∧ w = innW s ∧ GS s ∧ (¬ knP s g → K (some (.inl 0)) w) ∧ (knP s g → K (some (.inl 1)) (innW (lsS s g k)))
def ctb_X4_setLast : List (Nat × (List sv → List sc → (List sv → List sc → Prop) → Prop)) := [(2, cS (some 0) 2 F_X0_knows)]
theorem cok_X4_setLast : CallOK cX4_setLast 3 (some .boolean) RX4 3 ctb_X4_setLast := CallOK_cons (site_same (rnV (pX4_setLast_ok 2 _ rfl) ct_X0_knows kX0_knows lRX4_74 (by decide))) (CallOK_nil)
theorem ct_X4_setLast : Ct yX4_setLast cX4_setLast 3 (some .boolean) 3 F_X4_setLast := by
  intro l D σ cA sz as w K h
  obtain ⟨s, g, k, rfl, rfl, hG, hno, h⟩ := h
  refine metL (pr := lkB pX4_setLast) (rk := 2) (ct := ctb_X4_setLast) (fld := lkB flX4) (cst := lkB csX4) (cstL := lkB clX4) [] pX4_setLast_ok kX4_setLast.2.2.2.2.2 fdX4 cdX4 rto2 cok_X4_setLast (Nat.le_of_ble_eq_true rfl) cut0 ?_ l D σ cA sz
  conv => whnf
  refine ⟨s, g, rfl, rfl, ?_⟩
  conv => whnf
  refine ⟨fun hc => ?_, fun hc => ?_⟩
  · have hc := bp_n hc
    conv => whnf
    refine ⟨kn_in hG hc, ?_⟩
    conv => whnf
    exact ⟨Or.inr rfl, h hc⟩
  · conv => whnf
    exact ⟨Or.inl rfl, hno (bp_0.mp hc)⟩
def F_X4_setHealth : Fn := fun as w K => ∃ (s : InnS) (g v : Int32), as = [sR 0, sI g, sI v] ∧ w = innW s ∧ GS s ∧ (¬ heC s g v → K (some (.inl 0)) w) ∧ (heC s g v → K (some (.inl 1)) (innW (hhS s g v)))
def ctb_X4_setHealth : List (Nat × (List sv → List sc → (List sv → List sc → Prop) → Prop)) := [(2, cS (some 0) 2 F_X0_knows), (12, cS none 3 F_X5_within)]
theorem cok_X4_setHealth : CallOK cX4_setHealth 3 (some .boolean) RX4 3 ctb_X4_setHealth := CallOK_cons (site_same (rnV (pX4_setHealth_ok 2 _ rfl) ct_X0_knows kX0_knows lRX4_74 (by decide))) (CallOK_cons (site_same (rnN (pX4_setHealth_ok 12 _ rfl) ct_X5_within kX5_within (List.mem_of_getElem? (i := 4) rfl) (by decide))) (CallOK_nil))
theorem ct_X4_setHealth : Ct yX4_setHealth cX4_setHealth 3 (some .boolean) 3 F_X4_setHealth := by
  intro l D σ cA sz as w K h
  obtain ⟨s, g, v, rfl, rfl, hG, hno, h⟩ := h
  refine metL (pr := lkB pX4_setHealth) (rk := 2) (ct := ctb_X4_setHealth) (fld := lkB flX4) (cst := lkB csX4) (cstL := lkB clX4) [] pX4_setHealth_ok kX4_setHealth.2.2.2.2.2 fdX4 cdX4 rto2 cok_X4_setHealth (Nat.le_of_ble_eq_true rfl) cut0 ?_ l D σ cA sz
  conv => whnf
  refine ⟨s, g, rfl, rfl, ?_⟩
  conv => whnf
  refine ⟨fun hc => ?_, fun hc1 => ?_⟩
  · conv => whnf
    exact ⟨Or.inl rfl, hno (fun z => bp_0.mp hc z.1)⟩
  conv => whnf
  refine ⟨fun hc2 => ?_, fun hc => ?_⟩
  · have hc1 := bp_n hc1
    have hc2 := bp_n hc2
    conv => whnf
    refine ⟨kn_in hG hc1, ?_⟩
    conv => whnf
    exact ⟨Or.inr rfl, h ⟨hc1, hc2⟩⟩
  · conv => whnf
    exact ⟨Or.inl rfl, hno (fun z => bp_0.mp hc z.2)⟩
def pnC (s : InnS) (n : Int32) : Prop := (1 ≤ n ∧ n ≤ 60) ∧ iN s + n ≤ 999
def F_X4_passNights : Fn := fun as w K => ∃ (s : InnS) (N : Nat) (n : Int32), as = [sR 0, sI n] ∧ w = innW s ∧ GS s ∧ iN s = nI N ∧ N ≤ 999 ∧ (¬ pnC s n → K (some (.inl 0)) w) ∧ (pnC s n → K (some (.inl 1)) (innW (nightsS (ix n) s)))
def ctb_X4_passNights : List (Nat × (List sv → List sc → (List sv → List sc → Prop) → Prop)) := [(4, cS none 3 F_X5_within), (26, cS (some 0) 2 F_X0_pass)]
theorem cok_X4_passNights : CallOK cX4_passNights 2 (some .boolean) RX4 6 ctb_X4_passNights := CallOK_cons (site_same (rnN (pX4_passNights_ok 4 _ rfl) ct_X5_within kX5_within (List.mem_of_getElem? (i := 4) rfl) (by decide))) (CallOK_cons (site_same (rnV (pX4_passNights_ok 26 _ rfl) ct_X0_pass kX0_pass lRX4_96 (by decide))) (CallOK_nil))
theorem ct_X4_passNights : Ct yX4_passNights cX4_passNights 2 (some .boolean) 6 F_X4_passNights := by
  intro l D σ cA sz as w K h
  obtain ⟨s, N, n, rfl, rfl, hG, hN, hN9, hno, h⟩ := h
  refine metL (pr := lkB pX4_passNights) (rk := 2) (ct := ctb_X4_passNights) (fld := lkB flX4) (cst := lkB csX4) (cstL := lkB clX4) [] pX4_passNights_ok kX4_passNights.2.2.2.2.2 fdX4 cdX4 rto2 cok_X4_passNights (Nat.le_of_ble_eq_true rfl) cut0 ?_ l D σ cA sz
  conv => whnf
  refine ⟨fun hc => ?_, fun hc1 => ?_⟩
  · conv => whnf
    exact ⟨Or.inl rfl, hno (fun z => bp_0.mp hc z.1)⟩
  have hc1 := bp_n hc1
  conv => whnf
  refine ⟨fun hc2 => ?_, fun hc => ?_⟩
  · have hC : pnC s n := ⟨hc1, hc2⟩
    obtain ⟨n', hn1, hn, en⟩ := n60 hc1
    have h := h hC
    rw [show ix n = n' by rw [en]; exact nI_clamp (by omega)] at h
    conv => whnf
    refine ⟨s, n', N, by rw [en], rfl, hG, hN, by omega, ?_⟩
    conv => whnf
    exact ⟨Or.inr rfl, h⟩
  · conv => whnf
    exact ⟨Or.inl rfl, hno (fun z => hc z.2)⟩
/-- what the statement at p asks, and does -/
def teP (c : PA) (p : Nat) (s : InnS) : Prop := (c p = 103 → c (p + 1) - 48 < 8 ∧ iG s < 7) ∧ (c p = 119 ∨ c p = 101 ∨ c p = 104 → knP s (c (p + 1) - 48)) ∧ (c p = 104 → 1 ≤ 10 * (c (p + 2) - 48) + (c (p + 3) - 48)) ∧ (c p = 100 → pnC s (10 * (c (p + 1) - 48) + (c (p + 2) - 48)))
noncomputable def teS (c : PA) (p : Nat) (s : InnS) : InnS := if c p = 103 then adS s (c (p + 1) - 48) (c (p + 2) - 48) (c (p + 3) - 48) else if c p = 108 then ppS s (c (p + 1) - 48) (10 * (c (p + 2) - 48) + (c (p + 3) - 48)) else if c p = 119 then wbS s (c (p + 1) - 48) (c (p + 2) - 48) else if c p = 104 then hhS s (c (p + 1) - 48) (10 * (c (p + 2) - 48) + (c (p + 3) - 48)) else if c p = 101 then lsS s (c (p + 1) - 48) (c (p + 2) - 48) else if c p = 98 then stS s (c (p + 1) - 48) (c (p + 2) - 48) else nightsS (ix (10 * (c (p + 1) - 48) + (c (p + 2) - 48))) s
section TE
variable {c : PA} {p : Nat} {s : InnS}
theorem te_g (h : c p = 103) : teS c p s = adS s (c (p + 1) - 48) (c (p + 2) - 48) (c (p + 3) - 48) := by unfold teS; rw [if_pos h]
theorem te_l (h : c p = 108) : teS c p s = ppS s (c (p + 1) - 48) (10 * (c (p + 2) - 48) + (c (p + 3) - 48)) := by unfold teS; rw [if_neg (by rw [h]; decide), if_pos h]
theorem te_w (h : c p = 119) : teS c p s = wbS s (c (p + 1) - 48) (c (p + 2) - 48) := by unfold teS; rw [if_neg (by rw [h]; decide), if_neg (by rw [h]; decide), if_pos h]
theorem te_h (h : c p = 104) : teS c p s = hhS s (c (p + 1) - 48) (10 * (c (p + 2) - 48) + (c (p + 3) - 48)) := by unfold teS; rw [if_neg (by rw [h]; decide), if_neg (by rw [h]; decide), if_neg (by rw [h]; decide), if_pos h]
theorem te_e (h : c p = 101) : teS c p s = lsS s (c (p + 1) - 48) (c (p + 2) - 48) := by unfold teS; rw [if_neg (by rw [h]; decide), if_neg (by rw [h]; decide), if_neg (by rw [h]; decide), if_neg (by rw [h]; decide), if_pos h]
theorem te_b (h : c p = 98) : teS c p s = stS s (c (p + 1) - 48) (c (p + 2) - 48) := by unfold teS; rw [if_neg (by rw [h]; decide), if_neg (by rw [h]; decide), if_neg (by rw [h]; decide), if_neg (by rw [h]; decide), if_neg (by rw [h]; decide), if_pos h]
theorem te_d (h : c p = 100) : teS c p s = nightsS (ix (10 * (c (p + 1) - 48) + (c (p + 2) - 48))) s := by unfold teS; rw [if_neg (by rw [h]; decide), if_neg (by rw [h]; decide), if_neg (by rw [h]; decide), if_neg (by rw [h]; decide), if_neg (by rw [h]; decide), if_neg (by rw [h]; decide)]
end TE
theorem dg_let {x : Int32} (h : ¬ dgN x = 0) : (x = 103 ∨ x = 108 ∨ x = 104) ∨ (x = 119 ∨ x = 101 ∨ x = 98 ∨ x = 100) := by
  unfold dgN at h
  split at h
  · exact Or.inl (by assumption)
  · split at h
    · exact Or.inr (by assumption)
    · exact absurd rfl h
theorem dg_rng {x : Int32} (h : 48 ≤ x ∧ x ≤ 57) : rng 10 (x - 48) := by
  obtain ⟨j, hj, e⟩ := in_rng (n := 9) (by decide) ((dgt x).mpr h)
  exact ⟨j, by omega, e⟩
theorem dg_2 {a b : Int32} (ha : rng 10 a) (hb : rng 10 b) : rng 100 (10 * a + b) := by
  obtain ⟨i, hi, rfl⟩ := ha
  obtain ⟨j, hj, rfl⟩ := hb
  refine ⟨10 * i + j, by omega, ?_⟩
  rw [show (10 : Int32) = nI 10 by decide, pk_mul, nI_add]
theorem nI_2 (a : Nat) : nI a + 2 = nI (a + 2) := nI_add a 2
theorem nI_3 (a : Nat) : nI a + 3 = nI (a + 3) := nI_add a 3
def innC2 (s : InnS) : List sc := [oC 0 [sR 3, sR 4, sR 5, sR 6, sR 7, sR 8, sI (iG s), sI (iT s), sI (iN s), sI (iS s), sI (iA s), sI (iSn s), sI (iLn s)], aI 7 (iK s), aI 7 (iF s), aI 7 (iW s), aI 7 (iL s), aI 7 (iH s), aI 10 (iP s)]
def tlW (u : ShS) (s : InnS) : List sc := shW u ++ innC2 s
def F_X4_tell : Fn := fun as w K => ∃ (u : ShS) (s : InnS) (n p N : Nat), as = [sR 0, sI (nI p), sR 2] ∧ w = tlW u s ∧ uM u = nI n ∧ n ≤ 100 ∧ gdS (uC u) n p ∧ GS s ∧ iN s = nI N ∧ N ≤ 999 ∧ (¬ teP (uC u) p s → K (some (.inl 0)) w) ∧ (teP (uC u) p s → K (some (.inl 1)) (tlW u (teS (uC u) p s)))
def ctb_X4_tell : List (Nat × (List sv → List sc → (List sv → List sc → Prop) → Prop)) := [(4, cQ [0, 1] none 2 F_X4_digitAt), (12, cQ [0, 1] none 2 F_X4_digitAt), (21, cQ [0, 1] none 2 F_X4_digitAt), (93, cS none 1 F_X1_isKind), (105, cG [2, 3, 4, 5, 6, 7, 8] (some 0) 4 F_X0_admit), (127, cG [2, 3, 4, 5, 6, 7, 8] none 3 F_X4_setStock), (135, cG [2, 3, 4, 5, 6, 7, 8] none 3 F_X4_setWish), (149, cG [2, 3, 4, 5, 6, 7, 8] none 3 F_X4_setHealth), (157, cG [2, 3, 4, 5, 6, 7, 8] none 3 F_X4_setLast), (165, cG [2, 3, 4, 5, 6, 7, 8] none 3 F_X4_addStock), (177, cG [2, 3, 4, 5, 6, 7, 8] none 2 F_X4_passNights)]
theorem cok_X4_tell : CallOK cX4_tell 6 (some .boolean) RX4 7 ctb_X4_tell := CallOK_cons (site_q [0, 1] (by decide) (rnS (pX4_tell_ok 4 _ rfl) ct_X4_digitAt kX4_digitAt lRX4_32 (by decide))) (CallOK_cons (site_q [0, 1] (by decide) (rnS (pX4_tell_ok 12 _ rfl) ct_X4_digitAt kX4_digitAt lRX4_32 (by decide))) (CallOK_cons (site_q [0, 1] (by decide) (rnS (pX4_tell_ok 21 _ rfl) ct_X4_digitAt kX4_digitAt lRX4_32 (by decide))) (CallOK_cons (site_same (rnS (pX4_tell_ok 93 _ rfl) ct_X1_isKind kX1_isKind lRX4_36 (by decide))) (CallOK_cons (site_gen [2, 3, 4, 5, 6, 7, 8] (by decide) (rnV (pX4_tell_ok 105 _ rfl) ct_X0_admit kX0_admit lRX4_41 (by decide))) (CallOK_cons (site_gen [2, 3, 4, 5, 6, 7, 8] (by decide) (rnS (pX4_tell_ok 127 _ rfl) ct_X4_setStock kX4_setStock lRX4_47 (by decide))) (CallOK_cons (site_gen [2, 3, 4, 5, 6, 7, 8] (by decide) (rnS (pX4_tell_ok 135 _ rfl) ct_X4_setWish kX4_setWish lRX4_51 (by decide))) (CallOK_cons (site_gen [2, 3, 4, 5, 6, 7, 8] (by decide) (rnS (pX4_tell_ok 149 _ rfl) ct_X4_setHealth kX4_setHealth lRX4_54 (by decide))) (CallOK_cons (site_gen [2, 3, 4, 5, 6, 7, 8] (by decide) (rnS (pX4_tell_ok 157 _ rfl) ct_X4_setLast kX4_setLast lRX4_57 (by decide))) (CallOK_cons (site_gen [2, 3, 4, 5, 6, 7, 8] (by decide) (rnS (pX4_tell_ok 165 _ rfl) ct_X4_addStock kX4_addStock lRX4_60 (by decide))) (CallOK_cons (site_gen [2, 3, 4, 5, 6, 7, 8] (by decide) (rnS (pX4_tell_ok 177 _ rfl) ct_X4_passNights kX4_passNights lRX4_63 (by decide))) (CallOK_nil)))))))))))
theorem ct_X4_tell : Ct yX4_tell cX4_tell 6 (some .boolean) 7 F_X4_tell := by
  intro l D σ cA sz as w K h
  obtain ⟨u, s, n, p, N, rfl, rfl, eM, hn, hg, hG, hN, hN9, hno, h⟩ := h
  have up := gd_up hg
  obtain ⟨⟨g1, g2⟩, d1, d2, d3, -⟩ := id hg
  have ep : (nI p).toNatClampNeg = p := nI_clamp (by omega)
  have r1 := dg_rng d1.2
  have r2 := dg_rng d2.2
  refine metL (pr := lkB pX4_tell) (rk := 2) (ct := ctb_X4_tell) (fld := lkB flX4) (cst := lkB csX4) (cstL := lkB clX4) [] pX4_tell_ok kX4_tell.2.2.2.2.2 fdX4 cdX4 rto2 cok_X4_tell (Nat.le_of_ble_eq_true rfl) cut0 ?_ l D σ cA sz
  conv => whnf
  refine ⟨u, n, p + 1, by rw [← nI_1]; rfl, rfl, eM, hn, by omega, rfl, ?_⟩
  conv => whnf
  refine ⟨u, n, p + 2, by rw [← nI_2]; rfl, rfl, eM, hn, by omega, rfl, ?_⟩
  conv => whnf
  refine ⟨u, n, p + 3, by rw [← nI_3]; rfl, rfl, eM, hn, by omega, rfl, ?_⟩
  conv => whnf
  refine ⟨vp_in_nI (by omega) (by decide), ?_⟩
  rw [ep]
  generalize e1 : uC u (p + 1) - 48 = a at r1 ⊢
  generalize e2 : uC u (p + 2) - 48 = b at r2 ⊢
  generalize e3 : uC u (p + 3) - 48 = e at ⊢
  conv => whnf
  refine ⟨by decide, fun hb => ?_, fun hb98 => ?_⟩
  · have hb : uC u p = 98 := hb
    have h := h ⟨fun z => by rw [hb] at z; exact absurd z (by decide), fun z => by rw [hb] at z; exact absurd z (by decide), fun z => by rw [hb] at z; exact absurd z (by decide), fun z => by rw [hb] at z; exact absurd z (by decide)⟩
    rw [te_b hb, e1, e2] at h
    conv => whnf
    refine ⟨s, a, b, rfl, rfl, rng_in r1 (by decide), ?_⟩
    conv => whnf
    exact ⟨Or.inr rfl, h⟩
  refine ⟨by decide, fun hb => ?_, fun hb101 => ?_⟩
  · have hb : uC u p = 101 := hb
    conv => whnf
    refine ⟨s, a, b, rfl, rfl, hG, fun z => ?_, fun z => ?_⟩
    · conv => whnf
      exact ⟨Or.inl rfl, hno (fun y => z (by rw [← e1]; exact y.2.1 (Or.inr (Or.inl hb))))⟩
    · have h := h ⟨fun z => by rw [hb] at z; exact absurd z (by decide), fun _ => by rw [e1]; exact z, fun z => by rw [hb] at z; exact absurd z (by decide), fun z => by rw [hb] at z; exact absurd z (by decide)⟩
      rw [te_e hb, e1, e2] at h
      conv => whnf
      exact ⟨Or.inr rfl, h⟩
  refine ⟨by decide, fun hb => ?_, fun hb103 => ?_⟩
  · have hb : uC u p = 103 := hb
    conv => whnf
    refine ⟨fun hc => ?_, fun hc => ?_⟩
    · have hc := bp_0.mp hc
      conv => whnf
      refine ⟨Or.inl rfl, hno (fun y => hc ?_)⟩
      obtain ⟨j, hj, ej⟩ := r1
      have h8 := (y.1 hb).1
      rw [e1, ej] at h8
      have h8 := (nI_ltI (by omega) (by decide)).mp (show nI j < nI 8 from h8)
      rw [ej]
      exact ⟨nI_pos' (by omega), show nI j ≤ nI 7 from nI_le (by omega) (by decide)⟩
    have hc := bp_n hc
    have h8 : a < 8 := by
      obtain ⟨j, hj, ej⟩ := in_rng (n := 7) (by decide) hc
      rw [ej]
      exact (show nI j < nI 8 from nI_lt (by omega) (by decide))
    obtain ⟨G, hG8, eG⟩ := hG.2.1
    conv => whnf
    refine ⟨s, a, b, e, rfl, rfl, hG.2.1, fun z => ?_, fun z => ?_⟩
    · conv => whnf
      refine ⟨fun _ => ?_, fun y => absurd (by decide) y⟩
      conv => whnf
      exact ⟨Or.inl rfl, hno (fun y => absurd (y.1 hb).2 (Int32.not_lt.mpr z))⟩
    · have h := h ⟨fun _ => ⟨by rw [e1]; exact h8, z⟩, fun z => by rw [hb] at z; exact absurd z (by decide), fun z => by rw [hb] at z; exact absurd z (by decide), fun z => by rw [hb] at z; exact absurd z (by decide)⟩
      rw [te_g hb, e1, e2, e3] at h
      conv => whnf
      refine ⟨fun y => absurd y (by rw [eG]; exact nI_pos (by omega)), fun _ => ?_⟩
      conv => whnf
      exact ⟨Or.inr rfl, h⟩
  refine ⟨by decide, fun hb => ?_, fun hb104 => ?_⟩
  · have hb : uC u p = 104 := hb
    have r3 := dg_rng (d3 (by rw [hb]; decide)).2
    rw [e3] at r3
    have hv : 10 * b + e ≤ 99 := by
      obtain ⟨j, hj, ej⟩ := dg_2 r2 r3
      rw [ej]
      exact (show nI j ≤ nI 99 from nI_le (by omega) (by decide))
    conv => whnf
    refine ⟨s, a, 10 * b + e, rfl, rfl, hG, fun z => ?_, fun z => ?_⟩
    · conv => whnf
      exact ⟨Or.inl rfl, hno (fun y => z ⟨by rw [← e1]; exact y.2.1 (Or.inr (Or.inr hb)), by rw [← e2, ← e3]; exact y.2.2.1 hb, hv⟩)⟩
    · have h := h ⟨fun z => by rw [hb] at z; exact absurd z (by decide), fun _ => by rw [e1]; exact z.1, fun _ => by rw [e2, e3]; exact z.2.1, fun z => by rw [hb] at z; exact absurd z (by decide)⟩
      rw [te_h hb, e1, e2, e3] at h
      conv => whnf
      exact ⟨Or.inr rfl, h⟩
  refine ⟨by decide, fun hb => ?_, fun hb108 => ?_⟩
  · have hb : uC u p = 108 := hb
    have h := h ⟨fun z => by rw [hb] at z; exact absurd z (by decide), fun z => by rw [hb] at z; exact absurd z (by decide), fun z => by rw [hb] at z; exact absurd z (by decide), fun z => by rw [hb] at z; exact absurd z (by decide)⟩
    rw [te_l hb, e1, e2, e3] at h
    conv => whnf
    refine ⟨s, a, 10 * b + e, rfl, rfl, rng_in r1 (by decide), ?_⟩
    conv => whnf
    exact ⟨Or.inr rfl, h⟩
  refine ⟨by decide, fun hb => ?_, fun hb119 => ?_⟩
  · have hb : uC u p = 119 := hb
    conv => whnf
    refine ⟨s, a, b, rfl, rfl, hG, fun z => ?_, fun z => ?_⟩
    · conv => whnf
      exact ⟨Or.inl rfl, hno (fun y => z (by rw [← e1]; exact y.2.1 (Or.inl hb)))⟩
    · have h := h ⟨fun z => by rw [hb] at z; exact absurd z (by decide), fun _ => by rw [e1]; exact z, fun z => by rw [hb] at z; exact absurd z (by decide), fun z => by rw [hb] at z; exact absurd z (by decide)⟩
      rw [te_w hb, e1, e2] at h
      conv => whnf
      exact ⟨Or.inr rfl, h⟩
  have hb : uC u p = 100 := by
    rcases dg_let g2 with (z | z | z) | (z | z | z | z)
    · exact absurd z hb103
    · exact absurd z hb108
    · exact absurd z hb104
    · exact absurd z hb119
    · exact absurd z hb101
    · exact absurd z hb98
    · exact z
  conv => whnf
  refine ⟨s, N, 10 * a + b, rfl, rfl, hG, hN, hN9, fun z => ?_, fun z => ?_⟩
  · conv => whnf
    exact ⟨Or.inl rfl, hno (fun y => z (by rw [← e1, ← e2]; exact y.2.2.2 hb))⟩
  · have h := h ⟨fun z => by rw [hb] at z; exact absurd z (by decide), fun z => by rw [hb] at z; exact absurd z (by decide), fun z => by rw [hb] at z; exact absurd z (by decide), fun _ => by rw [e1, e2]; exact z⟩
    rw [te_d hb, e1, e2] at h
    conv => whnf
    exact ⟨Or.inr rfl, h⟩
