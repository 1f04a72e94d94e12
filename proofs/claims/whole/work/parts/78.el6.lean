/-! ===== element of the reference; copy's numbers ===== -/
noncomputable def elT (u : ShS) (d i : Int32) : Int32 := if reF u d 2 = -1 then 1 else if reF u d 2 < 0 ∨ ¬ (0 ≤ i ∧ i ≤ uM u - 1) then 2 else 0
noncomputable def elV (u : ShS) (d i : Int32) : Int64 := if elT u d i = 0 then (uC u (ix i)).toInt64 else 0
abbrev thT (t : Tm) (x : Int32) : Tm := (tSy t, tMr t, x, tRd t, tPl t, tBd t, tSt t, tPi t, tLo t, tTo t, tKe t, tP0 t, tTk t, tKi t, tDr t, tCe t, tGa t, tSd t, tBt t)
def F_X6_thrown : Fn := fun as w K => ∃ (s : InnS) (q : Pm) (t : Tm), as = [sR 0] ∧ w = modW s q t ∧ K (some (.inl (tTh t))) w
def ctb_X6_thrown : List (Nat × (List sv → List sc → (List sv → List sc → Prop) → Prop)) := []
theorem cok_X6_thrown : CallOK cX6_thrown 1 (some .int) RX6 1 ctb_X6_thrown := CallOK_nil
theorem ct_X6_thrown : Ct yX6_thrown cX6_thrown 1 (some .int) 1 F_X6_thrown := by
  intro l D σ cA sz as w K h
  obtain ⟨s, q, t, rfl, rfl, h⟩ := h
  refine metL (pr := lkB pX6_thrown) (rk := 1) (ct := ctb_X6_thrown) (fld := lkB flX6) (cst := lkB csX6) (cstL := lkB clX6) [] pX6_thrown_ok kX6_thrown.2.2.2.2.2.2.2 fdX6 cdX6 rto1 cok_X6_thrown (Nat.le_of_ble_eq_true rfl) cut0 ?_ l D σ cA sz
  conv => whnf
  exact h
theorem kLW {K : Option sv → List sc → Prop} {s : InnS} {q : Pm} {t : Tm} {x y : Int64} {a b : Int32} (h : K (some (.inr (.inl x))) (modW s q (thT t a))) (e : x = y) (e2 : a = b) : K (some (.inr (.inl y))) (modW s q (thT t b)) := e ▸ e2 ▸ h
def F_X6_element : Fn := fun as w K => ∃ (s : InnS) (q : Pm) (t : Tm) (u : ShS) (d i : Int32), as = [sR 0, sI d, sI i] ∧ w = modW s q t ∧ (0 ≤ d ∧ d ≤ 7 → SR q (ix d) u ∧ SH u) ∧ K (some (.inr (.inl (elV u d i)))) (modW s q (thT t (elT u d i)))
def ctb_X6_element : List (Nat × (List sv → List sc → (List sv → List sc → Prop) → Prop)) := [(2, cS (some 4) 2 F_X6_wrongRow), (32, cS none 3 F_X6_in)]
theorem cok_X6_element : CallOK cX6_element 4 (some .long) RX6 3 ctb_X6_element := CallOK_cons (site_same (rnV (pX6_element_ok 2 _ rfl) ct_X6_wrongRow kX6_wrongRow lRX6_184 (by decide))) (CallOK_cons (site_same (rnS (pX6_element_ok 32 _ rfl) ct_X6_in kX6_in lRX6_81 (by decide))) (CallOK_nil))
theorem ct_X6_element : Ct yX6_element cX6_element 4 (some .long) 3 F_X6_element := by
  intro l D σ cA sz as w K h
  obtain ⟨s, q, t, u, d, i, rfl, rfl, hu, h⟩ := h
  refine metL (pr := lkB pX6_element) (rk := 3) (ct := ctb_X6_element) (fld := lkB flX6) (cst := lkB csX6) (cstL := lkB clX6) [] pX6_element_ok kX6_element.2.2.2.2.2.2.2 fdX6 cdX6 rto3 cok_X6_element (Nat.le_of_ble_eq_true rfl) cut0 ?_ l D σ cA sz
  conv => whnf
  refine ⟨s, q, t, u, d, rfl, rfl, fun z => (hu z).1, ?_⟩
  conv => whnf
  refine ⟨fun h1 => ?_, fun h1 => ?_⟩
  rotate_left
  · have e1 : elT u d i = 1 := by unfold elT; rw [if_pos h1]
    repeat' ((conv => whnf); (first | ((with_reducible refine And.intro (fun z => ?_) (fun z => ?_)) <;> (try (first | exact absurd z (by first | assumption | decide) | exact absurd (by first | assumption | decide) z))) | fail))
    all_goals (conv => whnf)
    exact kLW h (by unfold elV; rw [e1, if_neg (by decide)]; rfl) e1
  conv => whnf
  refine ⟨fun h2 => ?_, fun h2 => ?_⟩
  · have e1 : elT u d i = 2 := by unfold elT; rw [if_neg h1, if_pos (Or.inl h2)]
    repeat' ((conv => whnf); (first | ((with_reducible refine And.intro (fun z => ?_) (fun z => ?_)) <;> (try (first | exact absurd z (by first | assumption | decide) | exact absurd (by first | assumption | decide) z))) | fail))
    all_goals (conv => whnf)
    exact kLW h (by unfold elV; rw [e1, if_neg (by decide)]; rfl) e1
  have hc := re_ge (Int32.not_lt.mp h2)
  obtain ⟨hd, h3⟩ := re_0 hc
  obtain ⟨d', hd', ed⟩ := sh_n hd
  obtain ⟨z1, z2, z3⟩ := (hu hd).1.2.2 h3
  have ed' : d.toNatClampNeg = d' := by rw [ed]; exact nI_clamp (by omega)
  rw [show ix d = d' from ed'] at z1 z2 z3
  conv => whnf
  refine ⟨sh_in hd, ?_⟩
  rw [ed', z2]
  conv => whnf
  refine ⟨fun h4 => ?_, fun h4 => ?_⟩
  · have h4 := bp_n (fun z => h4 ((in_ii 0 i (uM u - 1)).trans z))
    have e1 : elT u d i = 0 := by unfold elT; rw [if_neg h1, if_neg (fun z => z.elim h2 (fun y => y h4))]
    obtain ⟨j, n, hj, hn, ei, eM⟩ := cell_n (hu hd).2 h3 h4
    obtain ⟨r1, r2, r3⟩ := row_ix hd' (show j < 100 by omega)
    have eM' : ix (uM u) = n := by rw [eM]; exact nI_clamp (by omega)
    conv => whnf
    refine ⟨fun _ => ?_, fun z => absurd (by decide) z⟩
    conv => whnf
    rw [ed, ei, r1]
    refine ⟨r2, ?_⟩
    rw [r3]
    conv => whnf
    exact kLW h (by unfold elV; rw [e1, if_pos rfl, z3 j (by rw [eM']; exact hj), ei, show ix (nI j) = j from nI_clamp (by omega)]) e1
  · have h4 := bp_0.mp ((in_ii 0 i (uM u - 1)).symm.trans h4)
    have e1 : elT u d i = 2 := by unfold elT; rw [if_neg h1, if_pos (Or.inr h4)]
    repeat' ((conv => whnf); (first | ((with_reducible refine And.intro (fun z => ?_) (fun z => ?_)) <;> (try (first | exact absurd z (by first | assumption | decide) | exact absurd (by first | assumption | decide) z))) | fail))
    all_goals (conv => whnf)
    exact kLW h (by unfold elV; rw [e1, if_neg (by decide)]; rfl) e1
/-! copy -/
theorem nI_sub {a b : Nat} (h : b ≤ a) : nI a - nI b = nI (a - b) := by
  have := nI_add (a - b) b
  rw [Nat.sub_add_cancel h] at this
  rw [← this, Int32.add_sub_cancel]
theorem sub_le {M n i : Nat} (hM : M ≤ 100) (hn : n < 2 ^ 31) (hi : i < 2 ^ 31) : nI i ≤ nI M - nI n ↔ i + n ≤ M := by
  rw [Int32.le_iff_toInt_le, Int32.toInt_sub, nI_toInt hi, nI_toInt (by omega), nI_toInt hn, Int.bmod_eq_of_le (by omega) (by omega)]
  omega
def hcP (u : ShS) (i n : Int32) : Prop := 0 ≤ i ∧ 0 ≤ n ∧ i ≤ uM u ∧ n ≤ uM u - i
theorem hc_n {u : ShS} {i n : Int32} (hu : SH u) (h2 : uO u = 2) (h : hcP u i n) : ∃ i' n' M, i = nI i' ∧ n = nI n' ∧ uM u = nI M ∧ M ≤ 100 ∧ i' + n' ≤ M := by
  obtain ⟨M, hM, eM, -⟩ := sz_n hu h2
  obtain ⟨h1, h3, h4, h5⟩ := h
  rw [eM] at h4 h5
  obtain ⟨i', hi, ei⟩ := nI_of2 (M := nI M) (n := M) (nI_toInt (by omega)) (Int32.not_lt.mpr h1) h4
  rw [ei, nI_sub hi] at h5
  obtain ⟨n', hn, en⟩ := nI_of2 (M := nI (M - i')) (n := M - i') (nI_toInt (by omega)) (Int32.not_lt.mpr h3) h5
  exact ⟨i', n', M, ei, en, eM, hM, by omega⟩
theorem hc_iff {u : ShS} {i n : Int32} (hu : SH u) (h2 : uO u = 2) (hn : ¬ n < 0) (hi : ¬ i < 0) : hcP u i n ↔ i ≤ uM u - n := by
  obtain ⟨M, hM, eM, -⟩ := sz_n hu h2
  obtain ⟨i', hi', ei⟩ := nI_of hi
  obtain ⟨n', hn', en⟩ := nI_of hn
  rw [eM, ei, en, sub_le hM hn' hi', hcP, eM]
  refine ⟨fun h => ?_, fun h => ⟨nI_pos' hi', nI_pos' hn', nI_le (by omega) (by omega), ?_⟩⟩
  · have h3 := (nI_leI hi' (by omega)).mp h.2.2.1
    have h4 := h.2.2.2
    rw [nI_sub h3] at h4
    have := (nI_leI hn' (by omega)).mp h4
    omega
  · rw [nI_sub (by omega)]
    exact nI_le (by omega) (by omega)
def cpC (ud ue : ShS) (d e i j n : Int32) : Prop := ((0 ≤ d ∧ d ≤ 7) ∧ (0 ≤ e ∧ e ≤ 7)) ∧ (uO ud = 2 ∧ uO ue = 2 ∧ uS ud = uS ue) ∧ hcP ud i n ∧ hcP ue j n
noncomputable def cpR (ud ue : ShS) (d e : Int32) : Int32 := if (0 ≤ d ∧ d ≤ 7) ∧ (0 ≤ e ∧ e ≤ 7) then (if uO ud = 0 ∨ uO ue = 0 then -11 else if uO ud = 2 ∧ uO ue = 2 ∧ uS ud = uS ue then -13 else -12) else -1
def F_X3_hasCells : Fn := fun as w K => ∃ (u : ShS) (i n : Int32), as = [sR 0, sI i, sI n] ∧ w = shW u ∧ K (some (.inl (bp (hcP u i n)))) w
def ctb_X3_hasCells : List (Nat × (List sv → List sc → (List sv → List sc → Prop) → Prop)) := []
theorem cok_X3_hasCells : CallOK cX3_hasCells 3 (some .boolean) RX3 1 ctb_X3_hasCells := CallOK_nil
theorem ct_X3_hasCells : Ct yX3_hasCells cX3_hasCells 3 (some .boolean) 1 F_X3_hasCells := by
  intro l D σ cA sz as w K h
  obtain ⟨u, i, n, rfl, rfl, h⟩ := h
  refine metL (pr := lkB pX3_hasCells) (rk := 2) (ct := ctb_X3_hasCells) (fld := lkB flX3) (cst := lkB csX3) (cstL := lkB clX3) [] pX3_hasCells_ok kX3_hasCells.2.2.2.2.2.2.2 fdX3 cdX3 rto2 cok_X3_hasCells (Nat.le_of_ble_eq_true rfl) cut0 ?_ l D σ cA sz
  conv => whnf
  refine ⟨fun h1 => ?_, fun h1 => ?_⟩
  · conv => whnf
    exact kB0 h (fun z => absurd h1 (Int32.not_lt.mpr z.1))
  conv => whnf
  refine ⟨fun h2 => ?_, fun h2 => ?_⟩
  · conv => whnf
    exact kB0 h (fun z => absurd h2 (Int32.not_lt.mpr z.2.1))
  conv => whnf
  refine ⟨fun h3 => ?_, fun h3 => ?_⟩
  · conv => whnf
    exact kB0 h (fun z => absurd h3 (Int32.not_lt.mpr z.2.2.1))
  conv => whnf
  refine ⟨fun h4 => ?_, fun h4 => ?_⟩
  · conv => whnf
    exact kB0 h (fun z => absurd h4 (Int32.not_lt.mpr z.2.2.2))
  conv => whnf
  exact kB h ⟨Int32.not_lt.mp h1, Int32.not_lt.mp h2, Int32.not_lt.mp h3, Int32.not_lt.mp h4⟩
