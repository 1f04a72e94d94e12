/-! ===== the reference is told ===== -/
def F_X6_nightsCome : Fn := fun as w K => ∃ (s : InnS) (q : Pm) (t : Tm) (N : Nat) (n : Int32), as = [sR 0, sI n] ∧ w = modW s q t ∧ TZ t ∧ GS s ∧ iN s = nI N ∧ N ≤ 999 ∧ (¬ pnC s n → K (some (.inl 0)) w) ∧ (pnC s n → K (some (.inl 1)) (modW (nightsS (ix n) s) q t))
def ctb_X6_nightsCome : List (Nat × (List sv → List sc → (List sv → List sc → Prop) → Prop)) := [(6, cS none 3 F_X6_in), (36, cS (some 4) 2 F_X6_goNights)]
theorem cok_X6_nightsCome : CallOK cX6_nightsCome 3 (some .boolean) RX6 6 ctb_X6_nightsCome := CallOK_cons (site_same (rnS (pX6_nightsCome_ok 6 _ rfl) ct_X6_in kX6_in lRX6_81 (by decide))) (CallOK_cons (site_same (rnV (pX6_nightsCome_ok 36 _ rfl) ct_X6_goNights kX6_goNights lRX6_168 (by decide))) (CallOK_nil))
theorem ct_X6_nightsCome : Ct yX6_nightsCome cX6_nightsCome 3 (some .boolean) 6 F_X6_nightsCome := by
  intro l D σ cA sz as w K h
  obtain ⟨s, q, t, N, n, rfl, rfl, hT, hG, hN, hN9, hno, h⟩ := h
  refine metL (pr := lkB pX6_nightsCome) (rk := 2) (ct := ctb_X6_nightsCome) (fld := lkB flX6) (cst := lkB csX6) (cstL := lkB clX6) [] pX6_nightsCome_ok kX6_nightsCome.2.2.2.2.2.2.2 fdX6 cdX6 rto2 cok_X6_nightsCome (Nat.le_of_ble_eq_true rfl) cut0 ?_ l D σ cA sz
  conv => whnf
  refine ⟨fun hc => ?_, fun hc1 => ?_⟩
  · have hc := bp_0.mp ((in_ii 1 n 60).symm.trans hc)
    repeat' ((conv => whnf); (first | ((with_reducible refine And.intro (fun z => ?_) (fun z => ?_)) <;> (try (first | exact absurd z (by first | assumption | decide) | exact absurd (by first | assumption | decide) z))) | fail))
    all_goals (conv => whnf)
    exact ⟨Or.inl rfl, hno (fun z => hc z.1)⟩
  have hc1 := bp_n (fun z => hc1 ((in_ii 1 n 60).trans z))
  conv => whnf
  refine ⟨fun hc => ?_, fun hc2 => ?_⟩
  · skip
    repeat' ((conv => whnf); (first | ((with_reducible refine And.intro (fun z => ?_) (fun z => ?_)) <;> (try (first | exact absurd z (by first | assumption | decide) | exact absurd (by first | assumption | decide) z))) | fail))
    all_goals (conv => whnf)
    exact ⟨Or.inl rfl, hno (fun z => absurd hc (Int32.not_lt.mpr z.2))⟩
  · have hC : pnC s n := ⟨hc1, Int32.not_lt.mp hc2⟩
    obtain ⟨n', hn1, hn, en⟩ := n60 hc1
    have h := h hC
    rw [show ix n = n' by rw [en]; exact nI_clamp (by omega)] at h
    conv => whnf
    refine ⟨fun z => absurd z (by decide), fun _ => ?_⟩
    conv => whnf
    refine ⟨s, q, t, n', N, by rw [en], rfl, hT, hG, hN, by omega, ?_⟩
    conv => whnf
    exact ⟨Or.inr rfl, h⟩
def ogC (s : InnS) (x g v : Int32) : Prop := knP s g ∧ (x = 104 → 0 < v)
def ogS (s : InnS) (x g v : Int32) : InnS := if x = 119 then wbS s g v else if x = 101 then lsS s g v else hhS s g v
def F_X6_ofGuest : Fn := fun as w K => ∃ (s : InnS) (q : Pm) (t : Tm) (x g v : Int32), as = [sR 0, sI x, sI g, sI v] ∧ w = modW s q t ∧ GS s ∧ (x = 119 ∨ x = 101 ∨ x = 104) ∧ (¬ ogC s x g v → K (some (.inl 0)) w) ∧ (ogC s x g v → K (some (.inl 1)) (modW (ogS s x g v) q t))
def ctb_X6_ofGuest : List (Nat × (List sv → List sc → (List sv → List sc → Prop) → Prop)) := [(2, cS (some 4) 2 F_X6_isOne)]
theorem cok_X6_ofGuest : CallOK cX6_ofGuest 5 (some .boolean) RX6 3 ctb_X6_ofGuest := CallOK_cons (site_same (rnV (pX6_ofGuest_ok 2 _ rfl) ct_X6_isOne kX6_isOne lRX6_171 (by decide))) (CallOK_nil)
theorem ct_X6_ofGuest : Ct yX6_ofGuest cX6_ofGuest 5 (some .boolean) 3 F_X6_ofGuest := by
  intro l D σ cA sz as w K h
  obtain ⟨s, q, t, x, g, v, rfl, rfl, hG, hx, hno, h⟩ := h
  refine metL (pr := lkB pX6_ofGuest) (rk := 2) (ct := ctb_X6_ofGuest) (fld := lkB flX6) (cst := lkB csX6) (cstL := lkB clX6) [] pX6_ofGuest_ok kX6_ofGuest.2.2.2.2.2.2.2 fdX6 cdX6 rto2 cok_X6_ofGuest (Nat.le_of_ble_eq_true rfl) cut0 ?_ l D σ cA sz
  conv => whnf
  refine ⟨s, q, t, g, rfl, rfl, ?_⟩
  conv => whnf
  refine ⟨fun hc => ?_, fun hc1 => ?_⟩
  · have hc := bp_0.mp hc
    repeat' ((conv => whnf); (first | ((with_reducible refine And.intro (fun z => ?_) (fun z => ?_)) <;> (try (first | exact absurd z (by first | assumption | decide) | exact absurd (by first | assumption | decide) z))) | fail))
    all_goals (conv => whnf)
    exact ⟨Or.inl rfl, hno (fun z => hc z.1)⟩
  have hk := bp_n hc1
  have hv := kn_in hG hk
  rcases hx with hx | hx | hx
  · have h' := h ⟨hk, fun z => by rw [hx] at z; exact absurd z (by decide)⟩
    rw [show ogS s x g v = wbS s g v by unfold ogS; rw [if_pos hx]] at h'
    subst hx
    repeat' ((conv => whnf); (first | ((with_reducible refine And.intro (fun z => ?_) (fun z => ?_)) <;> (try (first | exact absurd z (by first | assumption | decide) | exact absurd (by first | assumption | decide) z))) | fail))
    all_goals (conv => whnf)
    refine ⟨hv, ?_⟩
    repeat' ((conv => whnf); (first | ((with_reducible refine And.intro (fun z => ?_) (fun z => ?_)) <;> (try (first | exact absurd z (by first | assumption | decide) | exact absurd (by first | assumption | decide) z))) | fail))
    all_goals (conv => whnf)
    exact ⟨Or.inr rfl, h'⟩
  · have h' := h ⟨hk, fun z => by rw [hx] at z; exact absurd z (by decide)⟩
    rw [show ogS s x g v = lsS s g v by unfold ogS; rw [if_neg (by rw [hx]; decide), if_pos hx]] at h'
    subst hx
    repeat' ((conv => whnf); (first | ((with_reducible refine And.intro (fun z => ?_) (fun z => ?_)) <;> (try (first | exact absurd z (by first | assumption | decide) | exact absurd (by first | assumption | decide) z))) | fail))
    all_goals (conv => whnf)
    refine ⟨hv, ?_⟩
    repeat' ((conv => whnf); (first | ((with_reducible refine And.intro (fun z => ?_) (fun z => ?_)) <;> (try (first | exact absurd z (by first | assumption | decide) | exact absurd (by first | assumption | decide) z))) | fail))
    all_goals (conv => whnf)
    exact ⟨Or.inr rfl, h'⟩
  · by_cases hv0 : 0 < v
    · have h' := h ⟨hk, fun _ => hv0⟩
      rw [show ogS s x g v = hhS s g v by unfold ogS; rw [if_neg (by rw [hx]; decide), if_neg (by rw [hx]; decide)]] at h'
      subst hx
      conv => whnf
      refine ⟨fun z => absurd rfl z, fun _ => ?_⟩
      conv => whnf
      refine ⟨fun z => absurd hv0 (Int32.not_lt.mpr z), fun _ => ?_⟩
      repeat' ((conv => whnf); (first | ((with_reducible refine And.intro (fun z => ?_) (fun z => ?_)) <;> (try (first | exact absurd z (by first | assumption | decide) | exact absurd (by first | assumption | decide) z))) | fail))
      all_goals (conv => whnf)
      refine ⟨hv, ?_⟩
      repeat' ((conv => whnf); (first | ((with_reducible refine And.intro (fun z => ?_) (fun z => ?_)) <;> (try (first | exact absurd z (by first | assumption | decide) | exact absurd (by first | assumption | decide) z))) | fail))
      all_goals (conv => whnf)
      exact ⟨Or.inr rfl, h'⟩
    · have hno' := hno (fun z => hv0 (z.2 hx))
      subst hx
      conv => whnf
      refine ⟨fun z => absurd rfl z, fun _ => ?_⟩
      conv => whnf
      refine ⟨fun _ => ?_, fun z => absurd (Int32.not_lt.mp hv0) z⟩
      repeat' ((conv => whnf); (first | ((with_reducible refine And.intro (fun z => ?_) (fun z => ?_)) <;> (try (first | exact absurd z (by first | assumption | decide) | exact absurd (by first | assumption | decide) z))) | fail))
      all_goals (conv => whnf)
      exact ⟨Or.inl rfl, hno'⟩
/-- the statement k of the text: its letter, its numbers -/
def TK (c : PA) (p k : Nat) (lo to : PA) : Prop := lo k = c p ∧ (to (3 * k) = if c p = 100 then 10 * (c (p + 1) - 48) + (c (p + 2) - 48) else c (p + 1) - 48) ∧ (¬ c p = 100 → to (3 * k + 1) = if c p = 108 ∨ c p = 104 then 10 * (c (p + 2) - 48) + (c (p + 3) - 48) else c (p + 2) - 48) ∧ (c p = 103 → to (3 * k + 2) = c (p + 3) - 48)
def F_X6_comesTold : Fn := fun as w K => ∃ (s : InnS) (q : Pm) (t : Tm) (c : PA) (n p k N : Nat), as = [sR 0, sI (nI k)] ∧ w = modW s q t ∧ TZ t ∧ TK c p k (tLo t) (tTo t) ∧ gdS c n p ∧ k < 50 ∧ GS s ∧ iN s = nI N ∧ N ≤ 999 ∧ (¬ teP c p s → K (some (.inl 0)) w) ∧ (teP c p s → K (some (.inl 1)) (modW (teS c p s) q t))
theorem pos1 (x : Int32) : 0 < x ↔ 1 ≤ x := by
  rw [Int32.lt_iff_toInt_lt, Int32.le_iff_toInt_le]
  show (0 : Int) < x.toInt ↔ (1 : Int) ≤ x.toInt
  omega
def ctb_X6_comesTold : List (Nat × (List sv → List sc → (List sv → List sc → Prop) → Prop)) := [(81, cS (some 4) 4 F_X6_guestComes), (109, cS none 2 F_X6_held), (117, cS (some 4) 2 F_X6_nightsCome), (130, cS (some 4) 4 F_X6_ofGuest)]
theorem cok_X6_comesTold : CallOK cX6_comesTold 4 (some .boolean) RX6 7 ctb_X6_comesTold := CallOK_cons (site_same (rnV (pX6_comesTold_ok 81 _ rfl) ct_X6_guestComes kX6_guestComes lRX6_174 (by decide))) (CallOK_cons (site_same (rnS (pX6_comesTold_ok 109 _ rfl) ct_X6_held kX6_held lRX6_88 (by decide))) (CallOK_cons (site_same (rnV (pX6_comesTold_ok 117 _ rfl) ct_X6_nightsCome kX6_nightsCome lRX6_178 (by decide))) (CallOK_cons (site_same (rnV (pX6_comesTold_ok 130 _ rfl) ct_X6_ofGuest kX6_ofGuest lRX6_181 (by decide))) (CallOK_nil))))
theorem ct_X6_comesTold : Ct yX6_comesTold cX6_comesTold 4 (some .boolean) 7 F_X6_comesTold := by
  intro l D σ cA sz as w K h
  obtain ⟨s, q, t, c, n, p, k, N, rfl, rfl, hT, ⟨hlo, t1, t2, t3⟩, hg, hk, hG, hN, hN9, hno, h⟩ := h
  obtain ⟨⟨g1, g2⟩, d1, d2, d3, -⟩ := id hg
  have r1 := dg_rng d1.2
  have r2 := dg_rng d2.2
  have ek : (nI k).toNatClampNeg = k := nI_clamp (by omega)
  have e0 : (nI (3 * k)).toNatClampNeg = 3 * k := nI_clamp (by omega)
  have e1 : (nI (3 * k + 1)).toNatClampNeg = 3 * k + 1 := nI_clamp (by omega)
  have e2 : (nI (3 * k + 2)).toNatClampNeg = 3 * k + 2 := nI_clamp (by omega)
  have i0 : vp_in (nI (3 * k)) 153 := vp_in_nI (by omega) (by decide)
  have i1 : vp_in (nI (3 * k + 1)) 153 := vp_in_nI (by omega) (by decide)
  have i2 : vp_in (nI (3 * k + 2)) 153 := vp_in_nI (by omega) (by decide)
  have ik : vp_in (nI k) 51 := vp_in_nI (by omega) (by decide)
  generalize hA : tTo t (3 * k) = A at t1
  generalize hB : tTo t (3 * k + 1) = B at t2
  generalize hC : tTo t (3 * k + 2) = C at t3
  generalize ea : c (p + 1) - 48 = a at r1 t1
  generalize eb : c (p + 2) - 48 = b at r2 t1 t2
  generalize ee : c (p + 3) - 48 = e at t2 t3
  refine metL (pr := lkB pX6_comesTold) (rk := 2) (ct := ctb_X6_comesTold) (fld := lkB flX6) (cst := lkB csX6) (cstL := lkB clX6) [] pX6_comesTold_ok kX6_comesTold.2.2.2.2.2.2.2 fdX6 cdX6 rto2 cok_X6_comesTold (Nat.le_of_ble_eq_true rfl) cut0 ?_ l D σ cA sz
  conv => whnf
  rw [nI_3k]
  refine ⟨i0, ?_⟩
  rw [e0, hA]
  conv => whnf
  rw [nI_3k, nI_1]
  refine ⟨i1, ?_⟩
  rw [e1, hB]
  conv => whnf
  refine ⟨ik, ?_⟩
  rw [ek, hlo]
  conv => whnf
  refine ⟨by decide, fun hb => ?_, fun hb98 => ?_⟩
  · have hb : c p = 98 := hb
    have h := h ⟨fun z => by rw [hb] at z; exact absurd z (by decide), fun z => by rw [hb] at z; exact absurd z (by decide), fun z => by rw [hb] at z; exact absurd z (by decide), fun z => by rw [hb] at z; exact absurd z (by decide)⟩
    rw [if_neg (by rw [hb]; decide)] at t1
    have t2 := t2 (by rw [hb]; decide)
    rw [if_neg (by rw [hb]; decide)] at t2
    subst t1
    subst t2
    have hs := (st_rng (hG.2.2.2.2.1 _ (rng_ix r1 (by decide))) r2).1
    rw [te_b hb, ea, eb, show stS s A B = ppS s A (heldI (iP s (ix A) + B) 99) by unfold stS; rw [held_m9 _ hs]] at h
    conv => whnf
    refine ⟨rng_in r1 (by decide), ?_⟩
    conv => whnf
    refine ⟨rng_in r1 (by decide), ?_⟩
    conv => whnf
    exact ⟨Or.inr rfl, h⟩
  refine ⟨by decide, fun hb => ?_, fun hb100 => ?_⟩
  · have hb : c p = 100 := hb
    rw [if_pos hb] at t1
    conv => whnf
    refine ⟨s, q, t, N, A, rfl, rfl, hT, hG, hN, hN9, fun z => ?_, fun z => ?_⟩
    · conv => whnf
      exact ⟨Or.inl rfl, hno (fun y => z (by rw [t1, ← ea, ← eb]; exact y.2.2.2 hb))⟩
    · have h := h ⟨fun z => by rw [hb] at z; exact absurd z (by decide), fun z => by rw [hb] at z; exact absurd z (by decide), fun z => by rw [hb] at z; exact absurd z (by decide), fun _ => by rw [ea, eb, ← t1]; exact z⟩
      rw [te_d hb, ea, eb, ← t1] at h
      conv => whnf
      exact ⟨Or.inr rfl, h⟩
  have hb100 : ¬ c p = 100 := hb100
  rw [if_neg hb100] at t1
  have t2 := t2 hb100
  subst t1
  refine ⟨by decide, fun hb => ?_, fun hb103 => ?_⟩
  · have hb : c p = 103 := hb
    rw [if_neg (by rw [hb]; decide)] at t2
    subst t2
    have t3 := t3 hb
    subst t3
    conv => whnf
    rw [nI_3k, nI_2]
    refine ⟨i2, ?_⟩
    rw [e2, hC]
    conv => whnf
    refine ⟨s, q, t, A, B, C, rfl, rfl, hG.2.1, fun z => ?_, fun z => ?_⟩
    · conv => whnf
      exact ⟨Or.inl rfl, hno (fun y => z (by rw [← ea]; exact y.1 hb))⟩
    · have h := h ⟨fun _ => by rw [ea]; exact z, fun z => by rw [hb] at z; exact absurd z (by decide), fun z => by rw [hb] at z; exact absurd z (by decide), fun z => by rw [hb] at z; exact absurd z (by decide)⟩
      rw [te_g hb, ea, eb, ee] at h
      conv => whnf
      exact ⟨Or.inr rfl, h⟩
  refine ⟨by decide, fun hb => ?_, fun hb108 => ?_⟩
  · have hb : c p = 108 := hb
    rw [if_pos (Or.inl hb)] at t2
    have h := h ⟨fun z => by rw [hb] at z; exact absurd z (by decide), fun z => by rw [hb] at z; exact absurd z (by decide), fun z => by rw [hb] at z; exact absurd z (by decide), fun z => by rw [hb] at z; exact absurd z (by decide)⟩
    rw [te_l hb, ea, eb, ee, ← t2] at h
    conv => whnf
    refine ⟨rng_in r1 (by decide), ?_⟩
    conv => whnf
    exact ⟨Or.inr rfl, h⟩
  have hx : c p = 119 ∨ c p = 101 ∨ c p = 104 := by
    rcases dg_let g2 with (z | z | z) | (z | z | z | z)
    · exact absurd z hb103
    · exact absurd z hb108
    · exact Or.inr (Or.inr z)
    · exact Or.inl z
    · exact Or.inr (Or.inl z)
    · exact absurd z hb98
    · exact absurd z hb100
  conv => whnf
  refine ⟨ik, ?_⟩
  rw [ek, hlo]
  conv => whnf
  refine ⟨s, q, t, c p, A, B, rfl, rfl, hG, hx, fun z => ?_, fun z => ?_⟩
  · conv => whnf
    refine ⟨Or.inl rfl, hno (fun y => z ⟨by rw [← ea]; exact y.2.1 hx, fun h4 => ?_⟩)⟩
    rw [if_pos (Or.inr h4)] at t2
    rw [t2, pos1, ← eb, ← ee]
    exact y.2.2.1 h4
  · have h := h ⟨fun y => absurd y hb103, fun _ => by rw [ea]; exact z.1, fun h4 => by rw [if_pos (Or.inr h4)] at t2; rw [eb, ee, ← t2, ← pos1]; exact z.2 h4, fun y => absurd y hb100⟩
    have hS : teS c p s = ogS s (c p) A B := by
      unfold ogS
      rcases hx with h9 | h9 | h9
      · rw [if_neg (by rw [h9]; decide)] at t2
        rw [if_pos h9, te_w h9, ea, eb, t2]
      · rw [if_neg (by rw [h9]; decide)] at t2
        rw [if_neg (by rw [h9]; decide), if_pos h9, te_e h9, ea, eb, t2]
      · rw [if_pos (Or.inr h9)] at t2
        rw [if_neg (by rw [h9]; decide), if_neg (by rw [h9]; decide), te_h h9, ea, eb, ee, t2]
    rw [hS] at h
    conv => whnf
    exact ⟨Or.inr rfl, h⟩
