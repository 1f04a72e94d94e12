/-! ===== a statement, read by the reference ===== -/
def F_X6_isLetter : Fn := fun as w K => match as with
  | [.inl x] => K (some (.inl (bp (¬ dgN x = 0)))) w
  | _ => False
theorem dg_no {x : Int32} (h1 : ¬ x = 103) (h2 : ¬ x = 108) (h3 : ¬ x = 119) (h4 : ¬ x = 104) (h5 : ¬ x = 101) (h6 : ¬ x = 98) (h7 : ¬ x = 100) : dgN x = 0 := by
  unfold dgN
  rw [if_neg (fun z => z.elim h1 (fun z => z.elim h2 h4)), if_neg (fun z => z.elim h3 (fun z => z.elim h5 (fun z => z.elim h6 h7)))]
def ctb_X6_isLetter : List (Nat × (List sv → List sc → (List sv → List sc → Prop) → Prop)) := []
theorem cok_X6_isLetter : CallOK cX6_isLetter 1 (some .boolean) RX6 1 ctb_X6_isLetter := CallOK_nil
theorem ct_X6_isLetter : Ct yX6_isLetter cX6_isLetter 1 (some .boolean) 1 F_X6_isLetter := by
  intro l D σ cA sz as w K h
  unfold F_X6_isLetter at h
  split at h
  · rename_i x
    refine metL (pr := lkB pX6_isLetter) (rk := 2) (ct := ctb_X6_isLetter) (fld := lkB flX6) (cst := lkB csX6) (cstL := lkB clX6) [] pX6_isLetter_ok kX6_isLetter.2.2.2.2.2 fdX6 cdX6 rto2 cok_X6_isLetter (Nat.le_of_ble_eq_true rfl) cut0 ?_ l D σ cA sz
    conv => whnf
    refine ⟨fun hc => ?_, fun h1 => ?_⟩
    · conv => whnf
      exact kB h (by rw [hc]; decide)
    conv => whnf
    refine ⟨fun hc => ?_, fun h2 => ?_⟩
    · conv => whnf
      exact kB h (by rw [hc]; decide)
    conv => whnf
    refine ⟨fun hc => ?_, fun h3 => ?_⟩
    · conv => whnf
      exact kB h (by rw [hc]; decide)
    conv => whnf
    refine ⟨fun hc => ?_, fun h4 => ?_⟩
    · conv => whnf
      exact kB h (by rw [hc]; decide)
    conv => whnf
    refine ⟨fun hc => ?_, fun h5 => ?_⟩
    · conv => whnf
      exact kB h (by rw [hc]; decide)
    conv => whnf
    refine ⟨fun hc => ?_, fun h6 => ?_⟩
    · conv => whnf
      exact kB h (by rw [hc]; decide)
    conv => whnf
    refine ⟨fun h7 => ?_, fun hc => ?_⟩
    · conv => whnf
      exact kB0 h (fun z => z (dg_no h1 h2 h3 h4 h5 h6 h7))
    · conv => whnf
      exact kB h (by rw [hc]; decide)
  · exact h.elim
def rnF (c : PA) (n : Nat) (x : Int32) (i p : Nat) (b : Bool) (to : PA) : Nat × Bool × PA :=
  if x = 100 then ((rdF c n 2 (p, b, 0)).1, (rdF c n 2 (p, b, 0)).2.1, upd to i (rdF c n 2 (p, b, 0)).2.2)
  else if x = 103 then
    ((rdF c n 1 ((rdF c n 1 ((rdF c n 1 (p, b, 0)).1, (rdF c n 1 (p, b, 0)).2.1, 0)).1, (rdF c n 1 ((rdF c n 1 (p, b, 0)).1, (rdF c n 1 (p, b, 0)).2.1, 0)).2.1, 0)).1, (rdF c n 1 ((rdF c n 1 ((rdF c n 1 (p, b, 0)).1, (rdF c n 1 (p, b, 0)).2.1, 0)).1, (rdF c n 1 ((rdF c n 1 (p, b, 0)).1, (rdF c n 1 (p, b, 0)).2.1, 0)).2.1, 0)).2.1, upd (upd (upd to i (rdF c n 1 (p, b, 0)).2.2) (i + 1) (rdF c n 1 ((rdF c n 1 (p, b, 0)).1, (rdF c n 1 (p, b, 0)).2.1, 0)).2.2) (i + 2) (rdF c n 1 ((rdF c n 1 ((rdF c n 1 (p, b, 0)).1, (rdF c n 1 (p, b, 0)).2.1, 0)).1, (rdF c n 1 ((rdF c n 1 (p, b, 0)).1, (rdF c n 1 (p, b, 0)).2.1, 0)).2.1, 0)).2.2)
  else ((rdF c n (if x = 108 ∨ x = 104 then 2 else 1) ((rdF c n 1 (p, b, 0)).1, (rdF c n 1 (p, b, 0)).2.1, 0)).1, (rdF c n (if x = 108 ∨ x = 104 then 2 else 1) ((rdF c n 1 (p, b, 0)).1, (rdF c n 1 (p, b, 0)).2.1, 0)).2.1, upd (upd to i (rdF c n 1 (p, b, 0)).2.2) (i + 1) (rdF c n (if x = 108 ∨ x = 104 then 2 else 1) ((rdF c n 1 (p, b, 0)).1, (rdF c n 1 (p, b, 0)).2.1, 0)).2.2)
section RN
variable {c : PA} {n i p p1 p2 p3 : Nat} {x v1 v2 v3 : Int32} {b b1 b2 b3 : Bool} {to : PA}
theorem rn_d (hx : x = 100) (h1 : rdF c n 2 (p, b, 0) = (p1, b1, v1)) : rnF c n x i p b to = (p1, b1, upd to i v1) := by
  unfold rnF
  rw [if_pos hx, h1]
theorem rn_g (hx : x = 103) (h1 : rdF c n 1 (p, b, 0) = (p1, b1, v1)) (h2 : rdF c n 1 (p1, b1, 0) = (p2, b2, v2)) (h3 : rdF c n 1 (p2, b2, 0) = (p3, b3, v3)) : rnF c n x i p b to = (p3, b3, upd (upd (upd to i v1) (i + 1) v2) (i + 2) v3) := by
  unfold rnF
  rw [if_neg (by rw [hx]; decide), if_pos hx, h1]
  dsimp only
  rw [h2]
  dsimp only
  rw [h3]
theorem rn_2 (hx0 : ¬ x = 100) (hx3 : ¬ x = 103) (hx : x = 108 ∨ x = 104) (h1 : rdF c n 1 (p, b, 0) = (p1, b1, v1)) (h2 : rdF c n 2 (p1, b1, 0) = (p2, b2, v2)) : rnF c n x i p b to = (p2, b2, upd (upd to i v1) (i + 1) v2) := by
  unfold rnF
  rw [if_neg hx0, if_neg hx3, if_pos hx, h1]
  dsimp only
  rw [h2]
theorem rn_1 (hx0 : ¬ x = 100) (hx3 : ¬ x = 103) (hx : ¬ (x = 108 ∨ x = 104)) (h1 : rdF c n 1 (p, b, 0) = (p1, b1, v1)) (h2 : rdF c n 1 (p1, b1, 0) = (p2, b2, v2)) : rnF c n x i p b to = (p2, b2, upd (upd to i v1) (i + 1) v2) := by
  unfold rnF
  rw [if_neg hx0, if_neg hx3, if_neg hx, h1]
  dsimp only
  rw [h2]
end RN
def F_X6_readNumbers : Fn := fun as w K => ∃ (s : InnS) (q : Pm) (t : Tm) (c : PA) (d n p i : Nat) (x : Int32) (b : Bool) (st : Int32) (pi lo to : PA), as = [sR 0, sI x, sI (nI i)] ∧ w = modR s q t (nI d) (nI p) (bi b) st pi lo to ∧ RC q c d n ∧ p < 800 ∧ i + 2 < 153 ∧ ∀ p' b' to', rnF c n x i p b to = (p', b', to') → p' ≤ p + 6 → K none (modR s q t (nI d) (nI p') (bi b') st pi lo to')
def ctb_X6_readNumbers : List (Nat × (List sv → List sc → (List sv → List sc → Prop) → Prop)) := [(17, cS (some 4) 2 F_X6_readDigits), (52, cS (some 4) 2 F_X6_readDigits), (71, cS (some 4) 2 F_X6_readDigits)]
theorem cok_X6_readNumbers : CallOK cX6_readNumbers 3 none RX6 3 ctb_X6_readNumbers := CallOK_cons (site_same (rnV (pX6_readNumbers_ok 17 _ rfl) ct_X6_readDigits kX6_readDigits lRX6_152 (by decide))) (CallOK_cons (site_same (rnV (pX6_readNumbers_ok 52 _ rfl) ct_X6_readDigits kX6_readDigits lRX6_152 (by decide))) (CallOK_cons (site_same (rnV (pX6_readNumbers_ok 71 _ rfl) ct_X6_readDigits kX6_readDigits lRX6_152 (by decide))) (CallOK_nil)))
theorem ct_X6_readNumbers : Ct yX6_readNumbers cX6_readNumbers 3 none 3 F_X6_readNumbers := by
  intro l D σ cA sz as w K h
  obtain ⟨s, q, t, c, d, n, p, i, x, b, st, pi, lo, to, rfl, rfl, hR, hp, hi, h⟩ := h
  have ei : (nI i).toNatClampNeg = i := nI_clamp (by omega)
  have ei1 : (nI (i + 1)).toNatClampNeg = i + 1 := nI_clamp (by omega)
  have ei2 : (nI (i + 2)).toNatClampNeg = i + 2 := nI_clamp (by omega)
  have hi0 : vp_in (nI i) 153 := vp_in_nI (by omega) (by decide)
  have hi1 : vp_in (nI (i + 1)) 153 := vp_in_nI (by omega) (by decide)
  have hi2 : vp_in (nI (i + 2)) 153 := vp_in_nI (by omega) (by decide)
  refine metL (pr := lkB pX6_readNumbers) (rk := 0) (ct := ctb_X6_readNumbers) (fld := lkB flX6) (cst := lkB csX6) (cstL := lkB clX6) [] pX6_readNumbers_ok kX6_readNumbers.2.2.2.2.2.2.2 fdX6 cdX6 rto0 cok_X6_readNumbers (Nat.le_of_ble_eq_true rfl) cut0 ?_ l D σ cA sz
  by_cases hx0 : x = 100
  · conv => whnf
    refine ⟨fun z => absurd hx0 z, fun _ => ?_⟩
    conv => whnf
    refine ⟨s, q, t, c, d, n, 2, p, b, st, pi, lo, to, rfl, rfl, hR, by omega, by decide, fun p1 b1 v1 h1 hp1 => ?_⟩
    conv => whnf
    refine ⟨hi0, ?_⟩
    rw [ei]
    conv => whnf
    refine ⟨fun _ => ?_, fun z => absurd hx0 z⟩
    conv => whnf
    refine ⟨fun _ => ?_, fun z => absurd z (by rw [hx0]; decide)⟩
    conv => whnf
    exact h p1 b1 _ (rn_d hx0 h1) (by omega)
  conv => whnf
  refine ⟨fun _ => ?_, fun z => absurd z hx0⟩
  conv => whnf
  refine ⟨s, q, t, c, d, n, 1, p, b, st, pi, lo, to, rfl, rfl, hR, by omega, by decide, fun p1 b1 v1 h1 hp1 => ?_⟩
  conv => whnf
  refine ⟨hi0, ?_⟩
  rw [ei]
  conv => whnf
  refine ⟨fun z => absurd z hx0, fun _ => ?_⟩
  by_cases hx2 : x = 108 ∨ x = 104
  · have hx3 : ¬ x = 103 := by rcases hx2 with z | z <;> (rw [z]; decide)
    by_cases hx8 : x = 108
    · conv => whnf
      refine ⟨fun _ => ?_, fun z => absurd hx8 z⟩
      conv => whnf
      refine ⟨s, q, t, c, d, n, 2, p1, b1, st, pi, lo, upd to i v1, rfl, rfl, hR, by omega, by decide, fun p2 b2 v2 h2 hp2 => ?_⟩
      conv => whnf
      rw [nI_1]
      refine ⟨hi1, ?_⟩
      rw [ei1]
      conv => whnf
      refine ⟨fun _ => ?_, fun z => absurd z hx3⟩
      conv => whnf
      exact h p2 b2 _ (rn_2 hx0 hx3 hx2 h1 h2) (by omega)
    · have hx4 := hx2.resolve_left hx8
      conv => whnf
      refine ⟨fun z => absurd z hx8, fun _ => ?_⟩
      conv => whnf
      refine ⟨fun z => absurd hx4 z, fun _ => ?_⟩
      conv => whnf
      refine ⟨s, q, t, c, d, n, 2, p1, b1, st, pi, lo, upd to i v1, rfl, rfl, hR, by omega, by decide, fun p2 b2 v2 h2 hp2 => ?_⟩
      conv => whnf
      rw [nI_1]
      refine ⟨hi1, ?_⟩
      rw [ei1]
      conv => whnf
      refine ⟨fun _ => ?_, fun z => absurd z hx3⟩
      conv => whnf
      exact h p2 b2 _ (rn_2 hx0 hx3 hx2 h1 h2) (by omega)
  · conv => whnf
    refine ⟨fun z => absurd (Or.inl z) hx2, fun _ => ?_⟩
    conv => whnf
    refine ⟨fun _ => ?_, fun z => absurd (Or.inr z) hx2⟩
    conv => whnf
    refine ⟨s, q, t, c, d, n, 1, p1, b1, st, pi, lo, upd to i v1, rfl, rfl, hR, by omega, by decide, fun p2 b2 v2 h2 hp2 => ?_⟩
    conv => whnf
    rw [nI_1]
    refine ⟨hi1, ?_⟩
    rw [ei1]
    conv => whnf
    refine ⟨fun hx3 => ?_, fun hx3 => ?_⟩
    · conv => whnf
      exact h p2 b2 _ (rn_1 hx0 hx3 hx2 h1 h2) (by omega)
    · conv => whnf
      refine ⟨s, q, t, c, d, n, 1, p2, b2, st, pi, lo, upd (upd to i v1) (i + 1) v2, rfl, rfl, hR, by omega, by decide, fun p3 b3 v3 h3 hp3 => ?_⟩
      conv => whnf
      rw [nI_2]
      refine ⟨hi2, ?_⟩
      rw [ei2]
      conv => whnf
      exact h p3 b3 _ (rn_g hx3 h1 h2 h3) (by omega)
def rsF (c : PA) (n p k : Nat) (to : PA) : Nat × Bool × PA := if dgN (hrF c n p) = 0 then (p, true, to) else if (rnF c n (hrF c n p) (3 * k) (p + 1) false to).2.1 = true ∨ ¬ hrF c n (rnF c n (hrF c n p) (3 * k) (p + 1) false to).1 = 59 then ((rnF c n (hrF c n p) (3 * k) (p + 1) false to).1, true, (rnF c n (hrF c n p) (3 * k) (p + 1) false to).2.2) else ((rnF c n (hrF c n p) (3 * k) (p + 1) false to).1 + 1, false, (rnF c n (hrF c n p) (3 * k) (p + 1) false to).2.2)
section RS
variable {c : PA} {n k p p2 : Nat} {b2 : Bool} {to to2 : PA}
theorem rs_0 (h : dgN (hrF c n p) = 0) : rsF c n p k to = (p, true, to) := by unfold rsF; rw [if_pos h]
theorem rs_b (h : ¬ dgN (hrF c n p) = 0) (h2 : rnF c n (hrF c n p) (3 * k) (p + 1) false to = (p2, b2, to2)) (hb : b2 = true ∨ ¬ hrF c n p2 = 59) : rsF c n p k to = (p2, true, to2) := by unfold rsF; rw [if_neg h, h2, if_pos hb]
theorem rs_g (h : ¬ dgN (hrF c n p) = 0) (h2 : rnF c n (hrF c n p) (3 * k) (p + 1) false to = (p2, false, to2)) (hb : hrF c n p2 = 59) : rsF c n p k to = (p2 + 1, false, to2) := by
  unfold rsF
  rw [if_neg h, h2, if_neg (fun z => z.elim (fun y => by cases y) (fun y => y hb))]
end RS
theorem nI_3k (k : Nat) : 3 * nI k = nI (3 * k) := by rw [show (3 : Int32) = nI 3 by decide, pk_mul]
def F_X6_readStatement : Fn := fun as w K => ∃ (s : InnS) (q : Pm) (t : Tm) (c : PA) (d n p k : Nat) (pi lo to : PA), as = [sR 0] ∧ w = modR s q t (nI d) (nI p) 0 (nI k) pi lo to ∧ RC q c d n ∧ p < 700 ∧ k < 50 ∧ ∀ p' b' to' pi' lo', rsF c n p k to = (p', b', to') → p' ≤ p + 8 → pi' = upd pi k (nI p) → lo' = upd lo k (hrF c n p) → K none (modR s q t (nI d) (nI p') (bi b') (nI (k + 1)) pi' lo' to')
def ctb_X6_readStatement : List (Nat × (List sv → List sc → (List sv → List sc → Prop) → Prop)) := [(6, cS (some 4) 1 F_X6_here), (36, cS none 1 F_X6_isLetter), (83, cS (some 4) 3 F_X6_readNumbers), (95, cS (some 4) 1 F_X6_here)]
theorem cok_X6_readStatement : CallOK cX6_readStatement 3 none RX6 4 ctb_X6_readStatement := CallOK_cons (site_same (rnV (pX6_readStatement_ok 6 _ rfl) ct_X6_here kX6_here lRX6_144 (by decide))) (CallOK_cons (site_same (rnS (pX6_readStatement_ok 36 _ rfl) ct_X6_isLetter kX6_isLetter lRX6_158 (by decide))) (CallOK_cons (site_same (rnV (pX6_readStatement_ok 83 _ rfl) ct_X6_readNumbers kX6_readNumbers lRX6_162 (by decide))) (CallOK_cons (site_same (rnV (pX6_readStatement_ok 95 _ rfl) ct_X6_here kX6_here lRX6_144 (by decide))) (CallOK_nil))))
theorem ct_X6_readStatement : Ct yX6_readStatement cX6_readStatement 3 none 4 F_X6_readStatement := by
  intro l D σ cA sz as w K h
  obtain ⟨s, q, t, c, d, n, p, k, pi, lo, to, rfl, rfl, hR, hp, hk, h⟩ := h
  have ek : (nI k).toNatClampNeg = k := nI_clamp (by omega)
  have hk0 : vp_in (nI k) 51 := vp_in_nI (by omega) (by decide)
  refine metL (pr := lkB pX6_readStatement) (rk := 0) (ct := ctb_X6_readStatement) (fld := lkB flX6) (cst := lkB csX6) (cstL := lkB clX6) [] pX6_readStatement_ok kX6_readStatement.2.2.2.2.2.2.2 fdX6 cdX6 rto0 cok_X6_readStatement (Nat.le_of_ble_eq_true rfl) cut0 ?_ l D σ cA sz
  conv => whnf
  refine ⟨s, q, t, c, d, n, p, 0, nI k, pi, lo, to, rfl, rfl, hR, by omega, ?_⟩
  conv => whnf
  refine ⟨hk0, ?_⟩
  rw [ek]
  obtain ⟨pi', epi⟩ : ∃ pi', upd pi k (nI p) = pi' := ⟨_, rfl⟩
  rw [epi]
  conv => whnf
  refine ⟨hk0, ?_⟩
  rw [ek]
  obtain ⟨lo', elo⟩ : ∃ lo', upd lo k (hrF c n p) = lo' := ⟨_, rfl⟩
  rw [elo]
  have h := fun p' b' to' z y => h p' b' to' pi' lo' z y epi.symm elo.symm
  generalize hx : hrF c n p = x at h ⊢
  conv => whnf
  refine ⟨fun z => absurd rfl z, fun _ => ?_⟩
  by_cases hL : dgN x = 0
  · conv => whnf
    refine ⟨fun z => absurd hL (bp_n z), fun _ => ?_⟩
    conv => whnf
    refine ⟨Or.inr rfl, ?_⟩
    repeat' ((conv => whnf); (first | ((with_reducible refine And.intro (fun z => ?_) (fun z => ?_)) <;> (try (first | exact absurd z (by first | assumption | decide) | exact absurd (by first | assumption | decide) z))) | fail))
    all_goals (conv => whnf)
    refine ⟨Or.inr rfl, ?_⟩
    repeat' ((conv => whnf); (first | ((with_reducible refine And.intro (fun z => ?_) (fun z => ?_)) <;> (try (first | exact absurd z (by first | assumption | decide) | exact absurd (by first | assumption | decide) z))) | fail))
    all_goals (conv => whnf)
    have h := h p true to (rs_0 (by rw [hx]; exact hL)) (by omega)
    exact kW h (Eq.trans (b := modR s q t (nI d) (nI p + 0 + 0) (bi true) (nI k + 1) pi' lo' to) (by rw [nI_p0, nI_p0, nI_1]) rfl)
  · conv => whnf
    refine ⟨fun _ => ?_, fun z => absurd hL (bp_0.mp z)⟩
    conv => whnf
    refine ⟨Or.inl rfl, ?_⟩
    repeat' ((conv => whnf); (first | ((with_reducible refine And.intro (fun z => ?_) (fun z => ?_)) <;> (try (first | exact absurd z (by first | assumption | decide) | exact absurd (by first | assumption | decide) z))) | fail))
    all_goals (conv => whnf)
    refine ⟨s, q, t, c, d, n, p + 1, 3 * k, x, false, nI k, pi', lo', to, by rw [← nI_3k], Eq.trans (b := modR s q t (nI d) (nI p + 1) (bi false) (nI k) pi' lo' to) rfl (by rw [nI_1]), hR, by omega, by omega, fun p2 b2 to2 h2 hp2 => ?_⟩
    cases b2 with
    | true =>
      have h := h p2 true to2 (rs_b (by rw [hx]; exact hL) (by rw [hx]; exact h2) (Or.inl rfl)) (by omega)
      repeat' ((conv => whnf); (first | ((with_reducible refine And.intro (fun z => ?_) (fun z => ?_)) <;> (try (first | exact absurd z (by first | assumption | decide) | exact absurd (by first | assumption | decide) z))) | fail))
      all_goals (conv => whnf)
      refine ⟨Or.inr rfl, ?_⟩
      repeat' ((conv => whnf); (first | ((with_reducible refine And.intro (fun z => ?_) (fun z => ?_)) <;> (try (first | exact absurd z (by first | assumption | decide) | exact absurd (by first | assumption | decide) z))) | fail))
      all_goals (conv => whnf)
      exact kW h (Eq.trans (b := modR s q t (nI d) (nI p2 + 0) (bi true) (nI k + 1) pi' lo' to2) (by rw [nI_p0, nI_1]) rfl)
    | false =>
      conv => whnf
      refine ⟨fun z => absurd rfl z, fun _ => ?_⟩
      conv => whnf
      refine ⟨s, q, t, c, d, n, p2, 0, nI k, pi', lo', to2, rfl, rfl, hR, by omega, ?_⟩
      conv => whnf
      refine ⟨fun h59 => ?_, fun h59 => ?_⟩
      · have h := h (p2 + 1) false to2 (rs_g (by rw [hx]; exact hL) (by rw [hx]; exact h2) h59) (by omega)
        conv => whnf
        refine ⟨Or.inl rfl, ?_⟩
        repeat' ((conv => whnf); (first | ((with_reducible refine And.intro (fun z => ?_) (fun z => ?_)) <;> (try (first | exact absurd z (by first | assumption | decide) | exact absurd (by first | assumption | decide) z))) | fail))
        all_goals (conv => whnf)
        exact kW h (Eq.trans (b := modR s q t (nI d) (nI p2 + 1) (bi false) (nI k + 1) pi' lo' to2) (by rw [nI_1, nI_1]) rfl)
      · have h := h p2 true to2 (rs_b (by rw [hx]; exact hL) (by rw [hx]; exact h2) (Or.inr h59)) (by omega)
        conv => whnf
        refine ⟨Or.inr rfl, ?_⟩
        repeat' ((conv => whnf); (first | ((with_reducible refine And.intro (fun z => ?_) (fun z => ?_)) <;> (try (first | exact absurd z (by first | assumption | decide) | exact absurd (by first | assumption | decide) z))) | fail))
        all_goals (conv => whnf)
        exact kW h (Eq.trans (b := modR s q t (nI d) (nI p2 + 0) (bi true) (nI k + 1) pi' lo' to2) (by rw [nI_p0, nI_1]) rfl)
