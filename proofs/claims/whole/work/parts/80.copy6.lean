/-! ===== copy of the reference ===== -/
def cpL (g b : Nat → Int64) (a : Nat) : Nat → (Nat → Int64)
  | 0 => b
  | k + 1 => vp_updL (cpL g b a k) (a + k) (g k)
theorem cpL_s (g b : Nat → Int64) (a k : Nat) : cpL g b a (k + 1) = vp_updL (cpL g b a k) (a + k) (g k) := rfl
theorem cpL_in (g b : Nat → Int64) (a : Nat) : ∀ n k, k < n → cpL g b a n (a + k) = g k
  | 0, k, h => absurd h (Nat.not_lt_zero _)
  | n + 1, k, h => by
    show vp_updL _ _ _ _ = _
    by_cases e : k = n
    · rw [e, pk_uLs]
    · rw [pk_uLn (by omega)]
      exact cpL_in g b a n k (by omega)
theorem cpL_out (g b : Nat → Int64) (a : Nat) : ∀ n i, (i < a ∨ a + n ≤ i) → cpL g b a n i = b i
  | 0, i, h => rfl
  | n + 1, i, h => by
    show vp_updL _ _ _ _ = _
    rw [pk_uLn (by omega)]
    exact cpL_out g b a n i (by omega)
def cpQ (q : Pm) (d e : Nat) (i j n : Int32) : Pm := (qH q, qK q, qF q, qS q, qM q, cpL (fun k => qR q (100 * d + ix i + k)) (qR q) (100 * e + ix j) (ix n), qI q, qB q)
abbrev btT (t : Tm) (b : Nat → Int64) : Tm := (tSy t, tMr t, tTh t, tRd t, tPl t, tBd t, tSt t, tPi t, tLo t, tTo t, tKe t, tP0 t, tTk t, tKi t, tDr t, tCe t, tGa t, tSd t, b)
abbrev modB (s : InnS) (q : Pm) (t : Tm) (bt : Nat → Int64) : List sc := modX s (qH q) (qK q) (qF q) (qS q) (qM q) (qR q) (qI q) (qB q) (tSy t) (tMr t) (tTh t) (tRd t) (tPl t) (tBd t) (tSt t) (tPi t) (tLo t) (tTo t) (tKe t) (tP0 t) (tTk t) (tKi t) (tDr t) (tCe t) (tGa t) (tSd t) bt
theorem row_ix2 {d i k : Nat} (hd : d < 8) (hi : i + k < 100) : 100 * nI d + nI i + nI k = nI (100 * d + i + k) ∧ vp_in (nI (100 * d + i + k)) 800 ∧ (nI (100 * d + i + k)).toNatClampNeg = 100 * d + i + k := by
  refine ⟨?_, vp_in_nI (by omega) (by decide), nI_clamp (by omega)⟩
  rw [show (100 : Int32) = nI 100 by decide, pk_mul, nI_add, nI_add]
def F_X6_copy : Fn := fun as w K => ∃ (s : InnS) (q : Pm) (t : Tm) (ud ue : ShS) (d i e j n : Int32), as = [sR 0, sI d, sI i, sI e, sI j, sI n] ∧ w = modW s q t ∧ TZ t ∧ (0 ≤ d ∧ d ≤ 7 → SR q (ix d) ud ∧ SH ud) ∧ (0 ≤ e ∧ e ≤ 7 → SR q (ix e) ue ∧ SH ue) ∧ (¬ cpC ud ue d e i j n → ∀ t', TZ t' → K (some (.inl (cpR ud ue d e))) (modW s q t')) ∧ (cpC ud ue d e i j n → ∀ t', TZ t' → K (some (.inl n)) (modW s (cpQ q (ix d) (ix e) i j n) t'))
def ctb_X6_copy : List (Nat × (List sv → List sc → (List sv → List sc → Prop) → Prop)) := [(11, cS none 3 F_X6_in), (23, cS none 3 F_X6_in)]
theorem cok_X6_copy : CallOK cX6_copy 7 (some .int) RX6 2 ctb_X6_copy := CallOK_cons (site_same (rnS (pX6_copy_ok 11 _ rfl) ct_X6_in kX6_in lRX6_81 (by decide))) (CallOK_cons (site_same (rnS (pX6_copy_ok 23 _ rfl) ct_X6_in kX6_in lRX6_81 (by decide))) (CallOK_nil))
theorem ct_X6_copy : Ct yX6_copy cX6_copy 7 (some .int) 2 F_X6_copy := by
  intro l D σ cA sz as w K h
  obtain ⟨s, q, t, ud, ue, d, i, e, j, n, rfl, rfl, hT, hud, hue, hno, h⟩ := h
  have hno := fun z => hno z (tq0 t) hT
  refine metL (pr := lkB pX6_copy) (rk := 1) (ct := ctb_X6_copy) (fld := lkB flX6) (cst := lkB csX6) (cstL := lkB clX6) [(137, ([true, true, true, true, true, true, true], fun x lv st w => ∃ (k d' e' i' j' n' : Nat) (t0 : Tm) (bt b0 : Nat → Int64), TZ t0 ∧ bt = cpL (fun k => qR q (100 * d' + i' + k)) b0 0 k ∧ k ≤ n' ∧ x = 1000 + (n' - k) ∧ d = nI d' ∧ e = nI e' ∧ i = nI i' ∧ j = nI j' ∧ n = nI n' ∧ d' < 8 ∧ e' < 8 ∧ i' + n' ≤ 100 ∧ j' + n' ≤ 100 ∧ cpC ud ue d e i j n ∧ lv = [some (sR 0), some (sI (nI d')), some (sI (nI i')), some (sI (nI e')), some (sI (nI j')), some (sI (nI n')), some (sI (nI k))] ∧ st = [] ∧ w = modB s q t0 bt)), (174, ([true, false, false, true, true, true, true], fun x lv st w => ∃ (k d' e' i' j' n' : Nat) (t0 : Tm) (bt ro : Nat → Int64), TZ t0 ∧ ro = cpL (fun k => qR q (100 * d' + i' + k)) (qR q) (100 * e' + j') k ∧ k ≤ n' ∧ x = n' - k ∧ d = nI d' ∧ e = nI e' ∧ i = nI i' ∧ j = nI j' ∧ n = nI n' ∧ d' < 8 ∧ e' < 8 ∧ i' + n' ≤ 100 ∧ j' + n' ≤ 100 ∧ cpC ud ue d e i j n ∧ (∀ y, y < n' → bt y = qR q (100 * d' + i' + y)) ∧ lv = [some (sR 0), none, none, some (sI (nI e')), some (sI (nI j')), some (sI (nI n')), some (sI (nI k))] ∧ st = [] ∧ w = modW s (qH q, qK q, qF q, qS q, qM q, ro, qI q, qB q) (btT t0 bt)))] pX6_copy_ok kX6_copy.2.2.2.2.2.2.2 fdX6 cdX6 rto1 cok_X6_copy (Nat.le_of_ble_eq_true rfl) ?_ ?_ l D σ cA sz
  · refine List.forall_mem_cons.mpr ⟨?_, List.forall_mem_cons.mpr ⟨?_, cut0⟩⟩
    · rintro x lv st w ⟨k, d', e', i', j', n', t0, bt, b0, hT0, ebt, hk, rfl, ed, ee, ei, ej, en, hd', he', hi', hj', hC, rfl, rfl, rfl⟩
      conv => whnf
      refine ⟨fun hc => ?_, fun hc => ?_⟩
      · have ek := lp_ge hk (by omega) hc
        conv => whnf
        exact ⟨n' - 0, by omega, 0, d', e', i', j', n', t0, bt, qR q, hT0, rfl, Nat.zero_le _, rfl, ed, ee, ei, ej, en, hd', he', hi', hj', hC, fun y hy => by have := cpL_in (fun k => qR q (100 * d' + i' + k)) b0 0 k y (by omega); rw [Nat.zero_add] at this; rw [ebt]; exact this, rfl, rfl, rfl⟩
      have hlt := lp_lt hk (by omega) hc
      obtain ⟨r1, r2, r3⟩ := row_ix2 (d := d') (i := i') (k := k) hd' (by omega)
      conv => whnf
      rw [r1]
      refine ⟨r2, ?_⟩
      rw [r3]
      conv => whnf
      refine ⟨vp_in_nI (by omega) (by decide), ?_⟩
      rw [show (nI k).toNatClampNeg = k from nI_clamp (by omega)]
      obtain ⟨bt', hbt'⟩ : ∃ bt', vp_updL bt k (qR q (100 * d' + i' + k)) = bt' := ⟨_, rfl⟩
      rw [hbt']
      conv => whnf
      exact ⟨1000 + (n' - (k + 1)), by omega, k + 1, d', e', i', j', n', t0, bt', b0, hT0, by rw [← hbt', ebt, cpL_s, Nat.zero_add], hlt, rfl, ed, ee, ei, ej, en, hd', he', hi', hj', hC, by rw [← nI_1]; rfl, rfl, rfl⟩
    · rintro x lv st w ⟨k, d', e', i', j', n', t0, bt, ro, hT0, ero, hk, rfl, ed, ee, ei, ej, en, hd', he', hi', hj', hC, hbt, rfl, rfl, rfl⟩
      conv => whnf
      refine ⟨fun hc => ?_, fun hc => ?_⟩
      · have ek := lp_ge hk (by omega) hc
        have h := h hC (btT t0 bt) ⟨hT0.1, hT0.2⟩
        rw [show cpQ q (ix d) (ix e) i j n = (qH q, qK q, qF q, qS q, qM q, ro, qI q, qB q) by unfold cpQ; rw [ero, ed, ee, ei, ej, en, show ix (nI d') = d' from nI_clamp (by omega), show ix (nI e') = e' from nI_clamp (by omega), show ix (nI i') = i' from nI_clamp (by omega), show ix (nI j') = j' from nI_clamp (by omega), show ix (nI n') = n' from nI_clamp (by omega), ek], en] at h
        conv => whnf
        exact h
      have hlt := lp_lt hk (by omega) hc
      obtain ⟨r1, r2, r3⟩ := row_ix2 (d := e') (i := j') (k := k) he' (by omega)
      conv => whnf
      refine ⟨vp_in_nI (by omega) (by decide), ?_⟩
      rw [show (nI k).toNatClampNeg = k from nI_clamp (by omega), show tBt (btT t0 bt) k = qR q (100 * d' + i' + k) from hbt k hlt]
      conv => whnf
      rw [r1]
      refine ⟨r2, ?_⟩
      rw [r3]
      conv => whnf
      exact ⟨n' - (k + 1), by omega, k + 1, d', e', i', j', n', t0, bt, vp_updL ro (100 * e' + j' + k) (qR q (100 * d' + i' + k)), hT0, by rw [ero, cpL_s], hlt, rfl, ed, ee, ei, ej, en, hd', he', hi', hj', hC, hbt, by rw [← nI_1]; rfl, rfl, rfl⟩
  · conv => whnf
    refine ⟨fun hc => ?_, fun hc1 => ?_⟩
    · have hc := bp_0.mp ((in_ii 0 d 7).symm.trans hc)
      conv => whnf
      exact kI (hno (fun z => hc z.1.1)) (by unfold cpR; rw [if_neg (fun z => hc z.1)])
    have hd := bp_n (fun z => hc1 ((in_ii 0 d 7).trans z))
    conv => whnf
    refine ⟨fun hc2 => ?_, fun hc => ?_⟩
    rotate_left
    · have hc := bp_0.mp ((in_ii 0 e 7).symm.trans hc)
      conv => whnf
      exact kI (hno (fun z => hc z.1.2)) (by unfold cpR; rw [if_neg (fun z => hc z.2)])
    have he := bp_n (fun z => hc2 ((in_ii 0 e 7).trans z))
    obtain ⟨g1, s1⟩ := hud hd
    obtain ⟨g2, s2⟩ := hue he
    have n11 : uO ud = 0 ∨ uO ue = 0 → K (some (.inl (-11))) (modW s q (tq0 t)) := fun z => kI (hno (fun y => z.elim (fun x => by rw [y.2.1.1] at x; exact absurd x (by decide)) (fun x => by rw [y.2.1.2.1] at x; exact absurd x (by decide)))) (by unfold cpR; rw [if_pos ⟨hd, he⟩, if_pos z])
    have n12 : ¬ (uO ud = 0 ∨ uO ue = 0) → ¬ (uO ud = 2 ∧ uO ue = 2 ∧ uS ud = uS ue) → K (some (.inl (-12))) (modW s q (tq0 t)) := fun z y => kI (hno (fun x => y x.2.1)) (by unfold cpR; rw [if_pos ⟨hd, he⟩, if_neg z, if_neg y])
    have n13 : (uO ud = 2 ∧ uO ue = 2 ∧ uS ud = uS ue) → ¬ (hcP ud i n ∧ hcP ue j n) → K (some (.inl (-13))) (modW s q (tq0 t)) := fun z y => kI (hno (fun x => y x.2.2)) (by unfold cpR; rw [if_pos ⟨hd, he⟩, if_neg (fun x => x.elim (fun x => by rw [z.1] at x; exact absurd x (by decide)) (fun x => by rw [z.2.1] at x; exact absurd x (by decide))), if_pos z])
    have g11 : qH q d.toNatClampNeg = uO ud := g1.1
    have g21 : qH q e.toNatClampNeg = uO ue := g2.1
    conv => whnf
    refine ⟨sh_in hd, ?_⟩
    rw [g11]
    conv => whnf
    refine ⟨fun h1 => ?_, fun h1 => ?_⟩
    · conv => whnf
      exact n11 (Or.inl h1)
    conv => whnf
    refine ⟨sh_in he, ?_⟩
    rw [g21]
    conv => whnf
    refine ⟨fun h2 => ?_, fun h2 => ?_⟩
    rotate_left
    · conv => whnf
      exact n11 (Or.inr h2)
    have h12 : ¬ (uO ud = 0 ∨ uO ue = 0) := fun z => z.elim h1 h2
    conv => whnf
    refine ⟨sh_in hd, ?_⟩
    rw [g11]
    conv => whnf
    refine ⟨fun h3 => ?_, fun h3 => ?_⟩
    · conv => whnf
      exact n12 h12 (fun z => h3 z.1)
    conv => whnf
    refine ⟨sh_in he, ?_⟩
    rw [g21]
    conv => whnf
    refine ⟨fun h4 => ?_, fun h4 => ?_⟩
    · conv => whnf
      exact n12 h12 (fun z => h4 z.2.1)
    obtain ⟨a1, a2, -⟩ := g1.2.2 h3
    obtain ⟨b1, b2, -⟩ := g2.2.2 h4
    conv => whnf
    refine ⟨sh_in hd, ?_⟩
    rw [show qS q d.toNatClampNeg = uS ud from a1]
    conv => whnf
    refine ⟨sh_in he, ?_⟩
    rw [show qS q e.toNatClampNeg = uS ue from b1]
    conv => whnf
    refine ⟨fun h5 => ?_, fun h5 => ?_⟩
    rotate_left
    · conv => whnf
      exact n12 h12 (fun z => h5 z.2.2)
    have h345 : uO ud = 2 ∧ uO ue = 2 ∧ uS ud = uS ue := ⟨h3, h4, h5⟩
    conv => whnf
    refine ⟨fun h6 => ?_, fun h6 => ?_⟩
    · conv => whnf
      exact n13 h345 (fun z => absurd h6 (Int32.not_lt.mpr z.1.2.1))
    conv => whnf
    refine ⟨fun h7 => ?_, fun h7 => ?_⟩
    · conv => whnf
      exact n13 h345 (fun z => absurd h7 (Int32.not_lt.mpr z.1.1))
    conv => whnf
    refine ⟨fun h8 => ?_, fun h8 => ?_⟩
    · conv => whnf
      exact n13 h345 (fun z => absurd h8 (Int32.not_lt.mpr z.2.1))
    conv => whnf
    refine ⟨sh_in hd, ?_⟩
    rw [show qM q d.toNatClampNeg = uM ud from a2]
    conv => whnf
    refine ⟨fun h9 => ?_, fun h9 => ?_⟩
    · conv => whnf
      exact n13 h345 (fun z => absurd h9 (Int32.not_lt.mpr ((hc_iff s1 h3 h6 h7).mp z.1)))
    conv => whnf
    refine ⟨sh_in he, ?_⟩
    rw [show qM q e.toNatClampNeg = uM ue from b2]
    conv => whnf
    refine ⟨fun h10 => ?_, fun h10 => ?_⟩
    rotate_left
    · conv => whnf
      exact n13 h345 (fun z => h10 ((hc_iff s2 h4 h6 h8).mp z.2))
    have p1 : hcP ud i n := (hc_iff s1 h3 h6 h7).mpr (Int32.not_lt.mp h9)
    have p2 : hcP ue j n := (hc_iff s2 h4 h6 h8).mpr h10
    obtain ⟨i', n', M, ei, en, -, hM, e4⟩ := hc_n s1 h3 p1
    obtain ⟨j', n2, M2, ej, en2, -, hM2, e8⟩ := hc_n s2 h4 p2
    obtain rfl : n2 = n' := by
      rw [en] at en2
      exact ((nI_eq (by omega) (by omega)).mp en2).symm
    obtain ⟨d', hd', ed⟩ := sh_n hd
    obtain ⟨e', he', ee⟩ := sh_n he
    conv => whnf
    exact ⟨1000 + (n2 - 0), 0, d', e', i', j', n2, tq0 t, tBt t, tBt t, hT, rfl, Nat.zero_le _, rfl, ed, ee, ei, ej, en, hd', he', by omega, by omega, ⟨⟨hd, he⟩, h345, p1, p2⟩, by rw [ed, ee, ei, ej, en]; rfl, rfl, rfl⟩
